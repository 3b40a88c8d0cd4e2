-- 63.b99f.lean.txt
section
set_option maxRecDepth 100000 in
set_option maxHeartbeats 4000000 in
theorem r_misses {F : FW} {B : Nat → Int} {n lim i : Nat} (hG : GW F) (hT : RTK F B n lim i) {s : PS} {g m : Nat} (hs : SRF F s) (hg : s.h 0 = (g : Int)) (hm : s.h 1 = (m : Int)) (hR : RWF F) {q : Nat} (hq : s.h 3 = (q : Int)) : Pm Z_X11_readMisses [.ref 69] F (fun r F' => LRQ F F' B n lim r (lnMiss (tok B n lim) s i)) := by
  refine Pm.of fun N => ?_
  obtain ⟨Q, hQ⟩ : ∃ Q : Option Value → FW → Prop, Q = (fun r F' => LRQ F F' B n lim r (lnMiss (tok B n lim) s i)) := ⟨_, rfl⟩
  rw [← hQ]
  have bb := hs.b
  unfold PSB at bb
  have bg : g ≤ 6 := by omega
  have bm : m ≤ 8 := by omega
  have bq : q ≤ 20 := by omega
  refine (show Pv (ab_T (L_X11_readMisses Z_X11_bad Z_X11_next Z_X11_takesName Z_X11_looksAt Z_X11_puts)) N 0 [some (.ref 69), none, none, none, none] [] F Q from ?_)
  refine Pv.aload rfl rfl ?_
  refine Pv.getR (v := .ref 72) rfl rfl (GW.at (a := 69) (k := 7) (b := 72) hG (by decide)) ?_
  refine Pv.lit rfl ?_
  refine Pv.ald (z := Int32.ofNat q) rfl (hs.at (by decide) hq) ?_
  refine Pv.istore (lo' := [some (.ref 69), some (.int (Int32.ofNat q)), none, none, none]) rfl rfl ?_
  refine Pv.iload rfl rfl ?_
  refine Pv.lit rfl ?_
  refine Pv.icmp rfl (fun c1 => ?_) (fun c1 => ?_)
  · skip
    replace c1 : decide (Int32.ofNat q = 20) = false := by simpa using c1
    replace c1 := mt (i_eq (a := q) (b := 20) (by omega) (by omega)).mpr (of_decide_eq_false c1)
    refine Pv.aload rfl rfl ?_
    refine Pv.callV (as := [.ref 69]) (rest := []) rfl rfl rfl (r_next hG hT) ?_
    rintro _ Gn ⟨rfl, xn, tn⟩
    have gn := RNX.G xn hG
    have sn1 := hs.lx (RLX.of xn)
    refine (show Pv _ _ 23 [some (.ref 69), some (.int (Int32.ofNat q)), none, none, none] [] Gn Q from ?_)
    refine Pv.aload rfl rfl ?_
    refine Pv.lit rfl ?_
    refine Pv.aload rfl rfl ?_
    refine Pv.getR (v := .ref 72) rfl rfl (GW.at (a := 69) (k := 7) (b := 72) gn (by decide)) ?_
    refine Pv.lit rfl ?_
    refine Pv.ald (z := Int32.ofNat m) rfl ((xn.1.1 72 1 (by decide)).trans (hs.at (by decide) hm)) ?_
    refine Pv.callV (as := [.ref 69, .int 20, .int (Int32.ofNat m)]) (rest := []) rfl rfl rfl (r_takesName (nm := sn s) (o := 20) (q := m) gn tn (by decide) (by omega) (sn1.m hm) ((RLX.of xn).RW hR)) ?_
    rintro _ G2 ⟨rfl, h2x, hv2x⟩
    have h2 : RSP Gn G2 B n lim (i + 1) (i + 2) (lkc (sn s) 20 m (tok B n lim (i + 1))) := h2x
    have hv2 : lkc (sn s) 20 m (tok B n lim (i + 1)) = 0 → G2.1 69 18 = oN (m_fst (fP (sn s) 20 (tok B n lim (i + 1)).v) m) := hv2x
    have g2 := RLX.G h2.1 gn
    refine (show Pv _ _ 35 [some (.ref 69), some (.int (Int32.ofNat q)), none, none, none] [.int (b2i (decide (lkc (sn s) 20 m (tok B n lim (i + 1)) = 0)))] G2 Q from ?_)
    refine Pv.if0 rfl (fun c2 => ?_) (fun c2 => ?_)
    · skip
      replace c2 : decide (b2i (decide (lkc (sn s) 20 m (tok B n lim (i + 1)) = 0)) = 0) = false := by simpa using c2
      replace c2 := of_decide_eq_false c2
      replace c2 := b2n.mp c2
      have e2 := of_decide_eq_true c2
      obtain ⟨w1, hw1, hf1, l1⟩ := lold_y (s := s) (o := 6) (fun _ => sn_m) (by omega) e2
      have hw18 : G2.1 69 18 = Int32.ofNat w1 := by rw [hv2 e2, hf1]; rfl
      have tn2 := (h2.2.1 e2).1
      have sn2 := sn1.lx h2.1
      have z2 : G2.1 69 15 = F.1 69 15 := (h2.2.1 e2).2.trans (xn.2.1 15 (by decide) (by decide) (by decide) (by decide) (by decide))
      refine Pv.aload rfl rfl ?_
      refine Pv.getI (z := Int32.ofNat w1) rfl rfl (hw18) ?_
      refine Pv.istore (lo' := [some (.ref 69), some (.int (Int32.ofNat q)), some (.int (Int32.ofNat w1)), none, none]) rfl rfl ?_
      refine Pv.aload rfl rfl ?_
      refine Pv.lit rfl ?_
      refine Pv.aload rfl rfl ?_
      refine Pv.getR (v := .ref 72) rfl rfl (GW.at (a := 69) (k := 7) (b := 72) g2 (by decide)) ?_
      refine Pv.lit rfl ?_
      refine Pv.ald (z := Int32.ofNat m) rfl (sn2.at (by decide) hm) ?_
      refine Pv.callV (as := [.ref 69, .int 20, .int (Int32.ofNat m)]) (rest := []) rfl rfl rfl (r_looksAt (nm := sn s) (o := 20) (q := m) g2 tn2 (by decide) (by omega) (sn2.m hm) (h2.1.RW ((RLX.of xn).RW hR))) ?_
      rintro _ G3 ⟨rfl, h3x, hv3x⟩
      have h3 : RSP G2 G3 B n lim (i + 2) (i + 2) (lkc (sn s) 20 m (tok B n lim (i + 2))) := h3x
      have hv3 : lkc (sn s) 20 m (tok B n lim (i + 2)) = 0 → G3.1 69 18 = oN (m_fst (fP (sn s) 20 (tok B n lim (i + 2)).v) m) := hv3x
      have g3 := RLX.G h3.1 g2
      refine (show Pv _ _ 57 [some (.ref 69), some (.int (Int32.ofNat q)), some (.int (Int32.ofNat w1)), none, none] [.int (b2i (decide (lkc (sn s) 20 m (tok B n lim (i + 2)) = 0)))] G3 Q from ?_)
      refine Pv.if0 rfl (fun c3 => ?_) (fun c3 => ?_)
      · skip
        replace c3 : decide (b2i (decide (lkc (sn s) 20 m (tok B n lim (i + 2)) = 0)) = 0) = false := by simpa using c3
        replace c3 := of_decide_eq_false c3
        replace c3 := b2n.mp c3
        have e3 := of_decide_eq_true c3
        obtain ⟨w2, hw2, hf2, l2⟩ := lold_y (s := s) (o := 6) (fun _ => sn_m) (by omega) e3
        have hw28 : G3.1 69 18 = Int32.ofNat w2 := by rw [hv3 e3, hf2]; rfl
        have tn3 := (h3.2.1 e3).1
        have sn3 := sn2.lx h3.1
        have z3 : G3.1 69 15 = F.1 69 15 := (h3.2.1 e3).2.trans z2
        have y3 : RSX F G3 := ((RSX.of (RLX.of xn)).lx h2.1).lx h3.1
        refine Pv.aload rfl rfl ?_
        refine Pv.getI (z := Int32.ofNat w2) rfl rfl (hw28) ?_
        refine Pv.iload rfl rfl ?_
        refine Pv.icmp rfl (fun c4 => ?_) (fun c4 => ?_)
        · skip
          replace c4 := (i_eq (a := w2) (b := w1) (by omega) (by omega)).mp (of_decide_eq_true c4)
          refine Pv.lit rfl ?_
          refine Pv.istore (lo' := [some (.ref 69), some (.int (Int32.ofNat q)), some (.int (Int32.ofNat w1)), some (.int 0), none]) rfl rfl ?_
          refine Pv.lit rfl ?_
          refine Pv.istore (lo' := [some (.ref 69), some (.int (Int32.ofNat q)), some (.int (Int32.ofNat w1)), some (.int 0), some (.int 0)]) rfl rfl ?_
          refine Pv.lp (ι := Int32 × Nat) (lof := fun ⟨b, j⟩ => [some (.ref 69), some (.int (Int32.ofNat q)), some (.int (Int32.ofNat w1)), some (.int b), some (.int (Int32.ofNat j))]) (Ff := fun ⟨b, j⟩ => G3) (P := fun ⟨b, j⟩ => j ≤ q ∧ b = b2i (!(decide ((w1 : Int) = (w2 : Int)) || mtold s.h (w1 : Int) (w2 : Int) j))) ?_ (0, 0) (⟨Nat.zero_le _, by rw [decide_eq_true (show (w1 : Int) = (w2 : Int) by omega)]; rfl⟩)
          rintro N5 hN6 ⟨b, j⟩ hi7 ih8
          refine (show Pv _ _ 79 [some (.ref 69), some (.int (Int32.ofNat q)), some (.int (Int32.ofNat w1)), some (.int b), some (.int (Int32.ofNat j))] [] G3 Q from ?_)
          obtain ⟨hj, hb⟩ := hi7
          refine Pv.iloadS rfl rfl ?_
          refine Pv.iload rfl rfl ?_
          refine Pv.icmp rfl (fun c9 => ?_) (fun c9 => ?_)
          · skip
            replace c9 := (i_le (a := q) (b := j) (by omega) (by omega)).mp (of_decide_eq_true c9)
            refine Pv.iload rfl rfl ?_
            refine Pv.if0 rfl (fun c10 => ?_) (fun c10 => ?_)
            · skip
              replace c10 : decide (b = 0) = false := by simpa using c10
              replace c10 := of_decide_eq_false c10
              have jq : j = q := by omega
              rw [jq] at hb
              have hn2 := mt_n (fun z => c10 (hb.trans z))
              have hM : ¬ ((w1 : Int) = (w2 : Int) ∨ mtold s.h (w1 : Int) (w2 : Int) q = true) := fun z => z.elim (of_decide_eq_false hn2.1) (fun y => by rw [hn2.2] at y; cases y)
              refine Pv.aload rfl rfl ?_
              refine Pv.getR (v := .ref 72) rfl rfl (GW.at (a := 69) (k := 7) (b := 72) g3 (by decide)) ?_
              refine Pv.lit rfl ?_
              refine Pv.iload rfl rfl ?_
              refine Pv.bin (z := Int32.ofNat (60 + q)) rfl (i_add 60 q) ?_
              refine Pv.iload rfl rfl ?_
              refine Pv.astk (k := 60 + q) (z := Int32.ofNat w1) rfl (i_toNat (by omega)) (rfl) ?_
              refine Pv.aload rfl rfl ?_
              refine Pv.getR (v := .ref 72) rfl rfl (GW.at (a := 69) (k := 7) (b := 72) g3 (by decide)) ?_
              refine Pv.lit rfl ?_
              refine Pv.iload rfl rfl ?_
              refine Pv.bin (z := Int32.ofNat (80 + q)) rfl (i_add 80 q) ?_
              refine Pv.aload rfl rfl ?_
              refine Pv.getI (z := Int32.ofNat w2) rfl rfl ((fp_ne (Or.inl (by decide))).trans (hw28)) ?_
              refine Pv.astk (k := 80 + q) (z := Int32.ofNat w2) rfl (i_toNat (by omega)) (rfl) ?_
              refine Pv.aload rfl rfl ?_
              refine Pv.callV (as := [.ref 69]) (rest := []) rfl rfl rfl (r_next (GW.fx g3 (((FX.rf (P := fun q => q = 72)).fp rfl).fp rfl)) ((tn3.oth (a := 72) (Or.inl rfl)).oth (a := 72) (Or.inl rfl))) ?_
              rintro _ G4 ⟨rfl, xn4, tn4⟩
              have g4 := RNX.G xn4 (GW.fx g3 (((FX.rf (P := fun q => q = 72)).fp rfl).fp rfl))
              have sn4 := ((sn3.put (k := 60 + q) (a := (w1 : Int)) (by omega) (i_toInt (by omega))).put (k := 80 + q) (a := (w2 : Int)) (by omega) (i_toInt (by omega))).lx (RLX.of xn4)
              have y4 : RSX F G4 := y3.p72.p72.lx (RLX.of xn4)
              have z4 : G4.1 69 15 = F.1 69 15 := (xn4.2.1 15 (by decide) (by decide) (by decide) (by decide) (by decide)).trans ((fp_ne (Or.inl (by decide))).trans ((fp_ne (Or.inl (by decide))).trans z3))
              refine (show Pv _ _ 169 [some (.ref 69), some (.int (Int32.ofNat q)), some (.int (Int32.ofNat w1)), some (.int b), some (.int (Int32.ofNat j))] [] G4 Q from ?_)
              refine Pv.aload rfl rfl ?_
              refine Pv.lit rfl ?_
              refine Pv.iload rfl rfl ?_
              refine Pv.bin (z := Int32.ofNat (100 + q)) rfl (i_add 100 q) ?_
              refine Pv.lit rfl ?_
              refine Pv.lit rfl ?_
              refine Pv.callV (as := [.ref 69, .int (Int32.ofNat (100 + q)), .int 0, .int 60]) (rest := []) rfl rfl rfl (r_puts (k := 100 + q) g4 tn4 (by omega) 0 60) ?_
              rintro _ G5 ⟨rfl, G6, x6, py, pn⟩
              have g5 : GW G5 := puts_gw g4 x6 py pn
              refine (show Pv _ _ 180 [some (.ref 69), some (.int (Int32.ofNat q)), some (.int (Int32.ofNat w1)), some (.int b), some (.int (Int32.ofNat j))] [.int (b2i (decide (tnN (tok B n lim (i + 3)) (0 : Int32).toInt (60 : Int32).toInt = 0)))] G5 Q from ?_)
              refine Pv.if0 rfl (fun c11 => ?_) (fun c11 => ?_)
              · skip
                replace c11 : decide (b2i (decide (tnN (tok B n lim (i + 3)) (0 : Int32).toInt (60 : Int32).toInt = 0)) = 0) = false := by simpa using c11
                replace c11 := of_decide_eq_false c11
                replace c11 := b2n.mp c11
                have ep := of_decide_eq_true c11
                obtain ⟨t7, z7, hv7, rfl⟩ := py ep
                have sn7 := (sn4.lx x6).put (k := 100 + q) (by omega) hv7
                have hq7 : ups (ups (ups s.h (60 + q) (w1 : Int)) (80 + q) (w2 : Int)) (100 + q) (tok B n lim (i + 3)).v 3 = (q : Int) := (ups_ne (by omega)).trans ((ups_ne (by omega)).trans ((ups_ne (by omega)).trans hq))
                refine Pv.aload rfl rfl ?_
                refine Pv.getR (v := .ref 72) rfl rfl (GW.at (a := 69) (k := 7) (b := 72) g5 (by decide)) ?_
                refine Pv.lit rfl ?_
                refine Pv.dup2 rfl ?_
                refine Pv.ald (z := Int32.ofNat q) rfl (sn7.at (by decide) hq7) ?_
                refine Pv.lit rfl ?_
                refine Pv.bin (z := Int32.ofNat (q + 1)) rfl (i_add q 1) ?_
                refine Pv.astk (k := 3) (z := Int32.ofNat (q + 1)) rfl (rfl) (rfl) ?_
                refine Pv.lit rfl ?_
                exact Pv.zret rfl (by rw [hQ]; exact LRQ.ok (lnMiss_y (by omega) hm hq l1 l2 hM ep) ((y4.lx x6).p72).p72 ((t7.oth (Or.inl rfl)).oth (Or.inl rfl)) ((fp_ne (Or.inl (by decide))).trans ((fp_ne (Or.inl (by decide))).trans (z7.trans z4))) (sn7.miss hq7 (by omega)))
              · skip
                replace c11 : decide (b2i (decide (tnN (tok B n lim (i + 3)) (0 : Int32).toInt (60 : Int32).toInt = 0)) = 0) = true := by simpa using c11
                replace c11 := of_decide_eq_true c11
                replace c11 := b2z.mp c11
                refine Pv.lit rfl ?_
                have en := of_decide_eq_false c11
                obtain ⟨eg, q1, q2⟩ := pn en
                subst eg
                exact Pv.zret rfl (by rw [hQ]; exact LRQ.bad (lnMiss_n (by omega) hm hq l1 l2 hM en) (y4.lx x6) (congrArg Int32.toInt q1) q2)
            · skip
              replace c10 : decide (b = 0) = true := by simpa using c10
              replace c10 := of_decide_eq_true c10
              have jq : j = q := by omega
              rw [jq] at hb
              have hM : (w1 : Int) = (w2 : Int) ∨ mtold s.h (w1 : Int) (w2 : Int) q = true := (mt_y (hb ▸ c10)).elim (fun z => Or.inl (of_decide_eq_true z)) Or.inr
              refine Pv.aload rfl rfl ?_
              refine Pv.lit rfl ?_
              refine Pv.callVI (as := [.ref 69, .int 3]) (rest := []) (z := 0) rfl rfl rfl (r_bad (c := 3) g3) ?_
              exact Pv.zret rfl (by rw [hQ]; exact LRQ.rb (j := i + 2) (c := 3) (lnMiss_t (by omega) hm hq l1 l2 hM) y3 tn3)
          · skip
            replace c9 := mt (i_le (a := q) (b := j) (by omega) (by omega)).mpr (of_decide_eq_false c9)
            refine Pv.iload rfl rfl ?_
            refine Pv.if0 rfl (fun c12 => ?_) (fun c12 => ?_)
            · skip
              replace c12 := of_decide_eq_true c12
              refine Pv.lit rfl ?_
              refine Pv.istore (lo' := [some (.ref 69), some (.int (Int32.ofNat q)), some (.int (Int32.ofNat w1)), some (.int 0), some (.int (Int32.ofNat j))]) rfl rfl ?_
              refine Pv.iinc (y := Int32.ofNat (j + 1)) (lo' := [some (.ref 69), some (.int (Int32.ofNat q)), some (.int (Int32.ofNat w1)), some (.int 0), some (.int (Int32.ofNat (j + 1)))]) rfl rfl (i_add j 1) rfl ?_
              refine Pv.goto rfl ?_
              exact ih8 (0, j + 1) (⟨by omega, mt_0 (hb ▸ c12)⟩)
            · skip
              replace c12 := of_decide_eq_false c12
              refine Pv.aload rfl rfl ?_
              refine Pv.getR (v := .ref 72) rfl rfl (GW.at (a := 69) (k := 7) (b := 72) g3 (by decide)) ?_
              refine Pv.lit rfl ?_
              refine Pv.iload rfl rfl ?_
              refine Pv.bin (z := Int32.ofNat (60 + j)) rfl (i_add 60 j) ?_
              refine Pv.ald (z := G3.1 72 (60 + j)) rfl (by rw [i_toNat (by omega)]) ?_
              refine Pv.iload rfl rfl ?_
              refine Pv.icmp rfl (fun c13 => ?_) (fun c13 => ?_)
              · skip
                replace c13 : decide (G3.1 72 (60 + j) = Int32.ofNat w1) = false := by simpa using c13
                replace c13 := of_decide_eq_false c13
                refine Pv.lit rfl ?_
                refine Pv.goto rfl ?_
                refine Pv.istore (lo' := [some (.ref 69), some (.int (Int32.ofNat q)), some (.int (Int32.ofNat w1)), some (.int 1), some (.int (Int32.ofNat j))]) rfl rfl ?_
                refine Pv.iinc (y := Int32.ofNat (j + 1)) (lo' := [some (.ref 69), some (.int (Int32.ofNat q)), some (.int (Int32.ofNat w1)), some (.int 1), some (.int (Int32.ofNat (j + 1)))]) rfl rfl (i_add j 1) rfl ?_
                refine Pv.goto rfl ?_
                exact ih8 (1, j + 1) (⟨by omega, mt_1 (fun z => c12 (hb.trans z)) (by rw [decide_eq_false (fun z => c13 ((sn3.eqv (i := 60 + j) (w := w1) (by omega) (by omega)).mpr z))]; rfl)⟩)
              · skip
                replace c13 : decide (G3.1 72 (60 + j) = Int32.ofNat w1) = true := by simpa using c13
                replace c13 := of_decide_eq_true c13
                refine Pv.aload rfl rfl ?_
                refine Pv.getR (v := .ref 72) rfl rfl (GW.at (a := 69) (k := 7) (b := 72) g3 (by decide)) ?_
                refine Pv.lit rfl ?_
                refine Pv.iload rfl rfl ?_
                refine Pv.bin (z := Int32.ofNat (80 + j)) rfl (i_add 80 j) ?_
                refine Pv.ald (z := G3.1 72 (80 + j)) rfl (by rw [i_toNat (by omega)]) ?_
                refine Pv.aload rfl rfl ?_
                refine Pv.getI (z := Int32.ofNat w2) rfl rfl (hw28) ?_
                refine Pv.icmp rfl (fun c14 => ?_) (fun c14 => ?_)
                · skip
                  replace c14 := of_decide_eq_true c14
                  refine Pv.lit rfl ?_
                  refine Pv.istore (lo' := [some (.ref 69), some (.int (Int32.ofNat q)), some (.int (Int32.ofNat w1)), some (.int 0), some (.int (Int32.ofNat j))]) rfl rfl ?_
                  refine Pv.iinc (y := Int32.ofNat (j + 1)) (lo' := [some (.ref 69), some (.int (Int32.ofNat q)), some (.int (Int32.ofNat w1)), some (.int 0), some (.int (Int32.ofNat (j + 1)))]) rfl rfl (i_add j 1) rfl ?_
                  refine Pv.goto rfl ?_
                  exact ih8 (0, j + 1) (⟨by omega, mt_x (by rw [decide_eq_true ((sn3.eqv (i := 60 + j) (w := w1) (by omega) (by omega)).mp c13), decide_eq_true ((sn3.eqv (i := 80 + j) (w := w2) (by omega) (by omega)).mp c14)]; rfl)⟩)
                · skip
                  replace c14 := of_decide_eq_false c14
                  refine Pv.lit rfl ?_
                  refine Pv.goto rfl ?_
                  refine Pv.istore (lo' := [some (.ref 69), some (.int (Int32.ofNat q)), some (.int (Int32.ofNat w1)), some (.int 1), some (.int (Int32.ofNat j))]) rfl rfl ?_
                  refine Pv.iinc (y := Int32.ofNat (j + 1)) (lo' := [some (.ref 69), some (.int (Int32.ofNat q)), some (.int (Int32.ofNat w1)), some (.int 1), some (.int (Int32.ofNat (j + 1)))]) rfl rfl (i_add j 1) rfl ?_
                  refine Pv.goto rfl ?_
                  exact ih8 (1, j + 1) (⟨by omega, mt_1 (fun z => c12 (hb.trans z)) (by rw [decide_eq_true ((sn3.eqv (i := 60 + j) (w := w1) (by omega) (by omega)).mp c13), decide_eq_false (fun z => c14 ((sn3.eqv (i := 80 + j) (w := w2) (by omega) (by omega)).mpr z))]; rfl)⟩)
        · skip
          replace c4 := mt (i_eq (a := w2) (b := w1) (by omega) (by omega)).mpr (of_decide_eq_false c4)
          refine Pv.lit rfl ?_
          refine Pv.goto rfl ?_
          refine Pv.istore (lo' := [some (.ref 69), some (.int (Int32.ofNat q)), some (.int (Int32.ofNat w1)), some (.int 1), none]) rfl rfl ?_
          refine Pv.lit rfl ?_
          refine Pv.istore (lo' := [some (.ref 69), some (.int (Int32.ofNat q)), some (.int (Int32.ofNat w1)), some (.int 1), some (.int 0)]) rfl rfl ?_
          refine Pv.lp (ι := Int32 × Nat) (lof := fun ⟨b, j⟩ => [some (.ref 69), some (.int (Int32.ofNat q)), some (.int (Int32.ofNat w1)), some (.int b), some (.int (Int32.ofNat j))]) (Ff := fun ⟨b, j⟩ => G3) (P := fun ⟨b, j⟩ => j ≤ q ∧ b = b2i (!(decide ((w1 : Int) = (w2 : Int)) || mtold s.h (w1 : Int) (w2 : Int) j))) ?_ (1, 0) (⟨Nat.zero_le _, by rw [decide_eq_false (show ¬ (w1 : Int) = (w2 : Int) by omega)]; rfl⟩)
          rintro N15 hN16 ⟨b, j⟩ hi17 ih18
          refine (show Pv _ _ 79 [some (.ref 69), some (.int (Int32.ofNat q)), some (.int (Int32.ofNat w1)), some (.int b), some (.int (Int32.ofNat j))] [] G3 Q from ?_)
          obtain ⟨hj, hb⟩ := hi17
          refine Pv.iloadS rfl rfl ?_
          refine Pv.iload rfl rfl ?_
          refine Pv.icmp rfl (fun c19 => ?_) (fun c19 => ?_)
          · skip
            replace c19 := (i_le (a := q) (b := j) (by omega) (by omega)).mp (of_decide_eq_true c19)
            refine Pv.iload rfl rfl ?_
            refine Pv.if0 rfl (fun c20 => ?_) (fun c20 => ?_)
            · skip
              replace c20 : decide (b = 0) = false := by simpa using c20
              replace c20 := of_decide_eq_false c20
              have jq : j = q := by omega
              rw [jq] at hb
              have hn2 := mt_n (fun z => c20 (hb.trans z))
              have hM : ¬ ((w1 : Int) = (w2 : Int) ∨ mtold s.h (w1 : Int) (w2 : Int) q = true) := fun z => z.elim (of_decide_eq_false hn2.1) (fun y => by rw [hn2.2] at y; cases y)
              refine Pv.aload rfl rfl ?_
              refine Pv.getR (v := .ref 72) rfl rfl (GW.at (a := 69) (k := 7) (b := 72) g3 (by decide)) ?_
              refine Pv.lit rfl ?_
              refine Pv.iload rfl rfl ?_
              refine Pv.bin (z := Int32.ofNat (60 + q)) rfl (i_add 60 q) ?_
              refine Pv.iload rfl rfl ?_
              refine Pv.astk (k := 60 + q) (z := Int32.ofNat w1) rfl (i_toNat (by omega)) (rfl) ?_
              refine Pv.aload rfl rfl ?_
              refine Pv.getR (v := .ref 72) rfl rfl (GW.at (a := 69) (k := 7) (b := 72) g3 (by decide)) ?_
              refine Pv.lit rfl ?_
              refine Pv.iload rfl rfl ?_
              refine Pv.bin (z := Int32.ofNat (80 + q)) rfl (i_add 80 q) ?_
              refine Pv.aload rfl rfl ?_
              refine Pv.getI (z := Int32.ofNat w2) rfl rfl ((fp_ne (Or.inl (by decide))).trans (hw28)) ?_
              refine Pv.astk (k := 80 + q) (z := Int32.ofNat w2) rfl (i_toNat (by omega)) (rfl) ?_
              refine Pv.aload rfl rfl ?_
              refine Pv.callV (as := [.ref 69]) (rest := []) rfl rfl rfl (r_next (GW.fx g3 (((FX.rf (P := fun q => q = 72)).fp rfl).fp rfl)) ((tn3.oth (a := 72) (Or.inl rfl)).oth (a := 72) (Or.inl rfl))) ?_
              rintro _ G4 ⟨rfl, xn4, tn4⟩
              have g4 := RNX.G xn4 (GW.fx g3 (((FX.rf (P := fun q => q = 72)).fp rfl).fp rfl))
              have sn4 := ((sn3.put (k := 60 + q) (a := (w1 : Int)) (by omega) (i_toInt (by omega))).put (k := 80 + q) (a := (w2 : Int)) (by omega) (i_toInt (by omega))).lx (RLX.of xn4)
              have y4 : RSX F G4 := y3.p72.p72.lx (RLX.of xn4)
              have z4 : G4.1 69 15 = F.1 69 15 := (xn4.2.1 15 (by decide) (by decide) (by decide) (by decide) (by decide)).trans ((fp_ne (Or.inl (by decide))).trans ((fp_ne (Or.inl (by decide))).trans z3))
              refine (show Pv _ _ 169 [some (.ref 69), some (.int (Int32.ofNat q)), some (.int (Int32.ofNat w1)), some (.int b), some (.int (Int32.ofNat j))] [] G4 Q from ?_)
              refine Pv.aload rfl rfl ?_
              refine Pv.lit rfl ?_
              refine Pv.iload rfl rfl ?_
              refine Pv.bin (z := Int32.ofNat (100 + q)) rfl (i_add 100 q) ?_
              refine Pv.lit rfl ?_
              refine Pv.lit rfl ?_
              refine Pv.callV (as := [.ref 69, .int (Int32.ofNat (100 + q)), .int 0, .int 60]) (rest := []) rfl rfl rfl (r_puts (k := 100 + q) g4 tn4 (by omega) 0 60) ?_
              rintro _ G5 ⟨rfl, G6, x6, py, pn⟩
              have g5 : GW G5 := puts_gw g4 x6 py pn
              refine (show Pv _ _ 180 [some (.ref 69), some (.int (Int32.ofNat q)), some (.int (Int32.ofNat w1)), some (.int b), some (.int (Int32.ofNat j))] [.int (b2i (decide (tnN (tok B n lim (i + 3)) (0 : Int32).toInt (60 : Int32).toInt = 0)))] G5 Q from ?_)
              refine Pv.if0 rfl (fun c21 => ?_) (fun c21 => ?_)
              · skip
                replace c21 : decide (b2i (decide (tnN (tok B n lim (i + 3)) (0 : Int32).toInt (60 : Int32).toInt = 0)) = 0) = false := by simpa using c21
                replace c21 := of_decide_eq_false c21
                replace c21 := b2n.mp c21
                have ep := of_decide_eq_true c21
                obtain ⟨t7, z7, hv7, rfl⟩ := py ep
                have sn7 := (sn4.lx x6).put (k := 100 + q) (by omega) hv7
                have hq7 : ups (ups (ups s.h (60 + q) (w1 : Int)) (80 + q) (w2 : Int)) (100 + q) (tok B n lim (i + 3)).v 3 = (q : Int) := (ups_ne (by omega)).trans ((ups_ne (by omega)).trans ((ups_ne (by omega)).trans hq))
                refine Pv.aload rfl rfl ?_
                refine Pv.getR (v := .ref 72) rfl rfl (GW.at (a := 69) (k := 7) (b := 72) g5 (by decide)) ?_
                refine Pv.lit rfl ?_
                refine Pv.dup2 rfl ?_
                refine Pv.ald (z := Int32.ofNat q) rfl (sn7.at (by decide) hq7) ?_
                refine Pv.lit rfl ?_
                refine Pv.bin (z := Int32.ofNat (q + 1)) rfl (i_add q 1) ?_
                refine Pv.astk (k := 3) (z := Int32.ofNat (q + 1)) rfl (rfl) (rfl) ?_
                refine Pv.lit rfl ?_
                exact Pv.zret rfl (by rw [hQ]; exact LRQ.ok (lnMiss_y (by omega) hm hq l1 l2 hM ep) ((y4.lx x6).p72).p72 ((t7.oth (Or.inl rfl)).oth (Or.inl rfl)) ((fp_ne (Or.inl (by decide))).trans ((fp_ne (Or.inl (by decide))).trans (z7.trans z4))) (sn7.miss hq7 (by omega)))
              · skip
                replace c21 : decide (b2i (decide (tnN (tok B n lim (i + 3)) (0 : Int32).toInt (60 : Int32).toInt = 0)) = 0) = true := by simpa using c21
                replace c21 := of_decide_eq_true c21
                replace c21 := b2z.mp c21
                refine Pv.lit rfl ?_
                have en := of_decide_eq_false c21
                obtain ⟨eg, q1, q2⟩ := pn en
                subst eg
                exact Pv.zret rfl (by rw [hQ]; exact LRQ.bad (lnMiss_n (by omega) hm hq l1 l2 hM en) (y4.lx x6) (congrArg Int32.toInt q1) q2)
            · skip
              replace c20 : decide (b = 0) = true := by simpa using c20
              replace c20 := of_decide_eq_true c20
              have jq : j = q := by omega
              rw [jq] at hb
              have hM : (w1 : Int) = (w2 : Int) ∨ mtold s.h (w1 : Int) (w2 : Int) q = true := (mt_y (hb ▸ c20)).elim (fun z => Or.inl (of_decide_eq_true z)) Or.inr
              refine Pv.aload rfl rfl ?_
              refine Pv.lit rfl ?_
              refine Pv.callVI (as := [.ref 69, .int 3]) (rest := []) (z := 0) rfl rfl rfl (r_bad (c := 3) g3) ?_
              exact Pv.zret rfl (by rw [hQ]; exact LRQ.rb (j := i + 2) (c := 3) (lnMiss_t (by omega) hm hq l1 l2 hM) y3 tn3)
          · skip
            replace c19 := mt (i_le (a := q) (b := j) (by omega) (by omega)).mpr (of_decide_eq_false c19)
            refine Pv.iload rfl rfl ?_
            refine Pv.if0 rfl (fun c22 => ?_) (fun c22 => ?_)
            · skip
              replace c22 := of_decide_eq_true c22
              refine Pv.lit rfl ?_
              refine Pv.istore (lo' := [some (.ref 69), some (.int (Int32.ofNat q)), some (.int (Int32.ofNat w1)), some (.int 0), some (.int (Int32.ofNat j))]) rfl rfl ?_
              refine Pv.iinc (y := Int32.ofNat (j + 1)) (lo' := [some (.ref 69), some (.int (Int32.ofNat q)), some (.int (Int32.ofNat w1)), some (.int 0), some (.int (Int32.ofNat (j + 1)))]) rfl rfl (i_add j 1) rfl ?_
              refine Pv.goto rfl ?_
              exact ih18 (0, j + 1) (⟨by omega, mt_0 (hb ▸ c22)⟩)
            · skip
              replace c22 := of_decide_eq_false c22
              refine Pv.aload rfl rfl ?_
              refine Pv.getR (v := .ref 72) rfl rfl (GW.at (a := 69) (k := 7) (b := 72) g3 (by decide)) ?_
              refine Pv.lit rfl ?_
              refine Pv.iload rfl rfl ?_
              refine Pv.bin (z := Int32.ofNat (60 + j)) rfl (i_add 60 j) ?_
              refine Pv.ald (z := G3.1 72 (60 + j)) rfl (by rw [i_toNat (by omega)]) ?_
              refine Pv.iload rfl rfl ?_
              refine Pv.icmp rfl (fun c23 => ?_) (fun c23 => ?_)
              · skip
                replace c23 : decide (G3.1 72 (60 + j) = Int32.ofNat w1) = false := by simpa using c23
                replace c23 := of_decide_eq_false c23
                refine Pv.lit rfl ?_
                refine Pv.goto rfl ?_
                refine Pv.istore (lo' := [some (.ref 69), some (.int (Int32.ofNat q)), some (.int (Int32.ofNat w1)), some (.int 1), some (.int (Int32.ofNat j))]) rfl rfl ?_
                refine Pv.iinc (y := Int32.ofNat (j + 1)) (lo' := [some (.ref 69), some (.int (Int32.ofNat q)), some (.int (Int32.ofNat w1)), some (.int 1), some (.int (Int32.ofNat (j + 1)))]) rfl rfl (i_add j 1) rfl ?_
                refine Pv.goto rfl ?_
                exact ih18 (1, j + 1) (⟨by omega, mt_1 (fun z => c22 (hb.trans z)) (by rw [decide_eq_false (fun z => c23 ((sn3.eqv (i := 60 + j) (w := w1) (by omega) (by omega)).mpr z))]; rfl)⟩)
              · skip
                replace c23 : decide (G3.1 72 (60 + j) = Int32.ofNat w1) = true := by simpa using c23
                replace c23 := of_decide_eq_true c23
                refine Pv.aload rfl rfl ?_
                refine Pv.getR (v := .ref 72) rfl rfl (GW.at (a := 69) (k := 7) (b := 72) g3 (by decide)) ?_
                refine Pv.lit rfl ?_
                refine Pv.iload rfl rfl ?_
                refine Pv.bin (z := Int32.ofNat (80 + j)) rfl (i_add 80 j) ?_
                refine Pv.ald (z := G3.1 72 (80 + j)) rfl (by rw [i_toNat (by omega)]) ?_
                refine Pv.aload rfl rfl ?_
                refine Pv.getI (z := Int32.ofNat w2) rfl rfl (hw28) ?_
                refine Pv.icmp rfl (fun c24 => ?_) (fun c24 => ?_)
                · skip
                  replace c24 := of_decide_eq_true c24
                  refine Pv.lit rfl ?_
                  refine Pv.istore (lo' := [some (.ref 69), some (.int (Int32.ofNat q)), some (.int (Int32.ofNat w1)), some (.int 0), some (.int (Int32.ofNat j))]) rfl rfl ?_
                  refine Pv.iinc (y := Int32.ofNat (j + 1)) (lo' := [some (.ref 69), some (.int (Int32.ofNat q)), some (.int (Int32.ofNat w1)), some (.int 0), some (.int (Int32.ofNat (j + 1)))]) rfl rfl (i_add j 1) rfl ?_
                  refine Pv.goto rfl ?_
                  exact ih18 (0, j + 1) (⟨by omega, mt_x (by rw [decide_eq_true ((sn3.eqv (i := 60 + j) (w := w1) (by omega) (by omega)).mp c23), decide_eq_true ((sn3.eqv (i := 80 + j) (w := w2) (by omega) (by omega)).mp c24)]; rfl)⟩)
                · skip
                  replace c24 := of_decide_eq_false c24
                  refine Pv.lit rfl ?_
                  refine Pv.goto rfl ?_
                  refine Pv.istore (lo' := [some (.ref 69), some (.int (Int32.ofNat q)), some (.int (Int32.ofNat w1)), some (.int 1), some (.int (Int32.ofNat j))]) rfl rfl ?_
                  refine Pv.iinc (y := Int32.ofNat (j + 1)) (lo' := [some (.ref 69), some (.int (Int32.ofNat q)), some (.int (Int32.ofNat w1)), some (.int 1), some (.int (Int32.ofNat (j + 1)))]) rfl rfl (i_add j 1) rfl ?_
                  refine Pv.goto rfl ?_
                  exact ih18 (1, j + 1) (⟨by omega, mt_1 (fun z => c22 (hb.trans z)) (by rw [decide_eq_true ((sn3.eqv (i := 60 + j) (w := w1) (by omega) (by omega)).mp c23), decide_eq_false (fun z => c24 ((sn3.eqv (i := 80 + j) (w := w2) (by omega) (by omega)).mpr z))]; rfl)⟩)
      · skip
        replace c3 : decide (b2i (decide (lkc (sn s) 20 m (tok B n lim (i + 2)) = 0)) = 0) = true := by simpa using c3
        replace c3 := of_decide_eq_true c3
        replace c3 := b2z.mp c3
        refine Pv.lit rfl ?_
        have en := of_decide_eq_false c3
        exact Pv.zret rfl (by rw [hQ]; exact LRQ.bad (by unfold lnMiss; rw [if_neg (by omega), hm]; exact (l1 _).trans (lold_n (fun _ => sn_m) (by omega) en)) (((RSX.of (RLX.of xn)).lx h2.1).lx h3.1) (congrArg Int32.toInt (h3.2.2 en).1) (h3.2.2 en).2)
    · skip
      replace c2 : decide (b2i (decide (lkc (sn s) 20 m (tok B n lim (i + 1)) = 0)) = 0) = true := by simpa using c2
      replace c2 := of_decide_eq_true c2
      replace c2 := b2z.mp c2
      refine Pv.lit rfl ?_
      have en := of_decide_eq_false c2
      exact Pv.zret rfl (by rw [hQ]; exact LRQ.bad (by unfold lnMiss; rw [if_neg (by omega), hm]; exact lold_n (fun _ => sn_m) (by omega) en) ((RSX.of (RLX.of xn)).lx h2.1) (congrArg Int32.toInt (h2.2.2 en).1) (h2.2.2 en).2)
  · skip
    replace c1 : decide (Int32.ofNat q = 20) = true := by simpa using c1
    replace c1 := (i_eq (a := q) (b := 20) (by omega) (by omega)).mp (of_decide_eq_true c1)
    refine Pv.aload rfl rfl ?_
    refine Pv.lit rfl ?_
    refine Pv.callVI (as := [.ref 69, .int 4]) (rest := []) (z := 0) rfl rfl rfl (r_bad (c := 4) hG) ?_
    exact Pv.zret rfl (by rw [hQ]; exact LRQ.rb (j := i) (c := 4) (by unfold lnMiss; rw [if_pos (by omega)]; rfl) RSX.rf hT)
end
-- 63.b99g.st.lean.txt
section
theorem lnum_k {T : Nat → TT} {j : Nat} {lo hi : Int} {k : Int → LR} (h : ¬ (T j).k = 3) : lnum T j lo hi k = LR.bad 1 j := by
  unfold lnum
  rw [if_pos h]
theorem lnum_r {T : Nat → TT} {j : Nat} {lo hi : Int} {k : Int → LR} (h3 : (T j).k = 3) (h : (T j).v < lo ∨ hi < (T j).v) : lnum T j lo hi k = LR.bad 2 j := by
  unfold lnum
  rw [if_neg (fun e => e h3), if_pos h]
theorem lnum_v {T : Nat → TT} {j : Nat} {lo hi : Int} {k : Int → LR} {d : Nat} (h3 : (T j).k = 3) (hd : (T j).v = (d : Int)) (h : lo ≤ (d : Int) ∧ (d : Int) ≤ hi) : lnum T j lo hi k = k (d : Int) := by
  unfold lnum
  rw [if_neg (fun e => e h3), if_neg (by omega), hd]
theorem lnAmt_k {T : Nat → TT} {s : PS} {i so g w : Nat} (hg : s.h 0 = (g : Int)) (l1 : ∀ k : Int → LR, lold T s 0 (g : Int) (i + 1) k = k (w : Int)) (h : ¬ (T (i + 2)).k = 3) : lnAmt T s i so = LR.bad 1 (i + 2) := by
  unfold lnAmt
  rw [hg]
  exact (l1 _).trans (lnum_k h)
theorem lnAmt_r {T : Nat → TT} {s : PS} {i so g w : Nat} (hg : s.h 0 = (g : Int)) (l1 : ∀ k : Int → LR, lold T s 0 (g : Int) (i + 1) k = k (w : Int)) (h3 : (T (i + 2)).k = 3) (h : 1 < (T (i + 2)).v) : lnAmt T s i so = LR.bad 2 (i + 2) := by
  unfold lnAmt
  rw [hg]
  exact (l1 _).trans (lnum_r h3 (Or.inr h))
theorem lnAmt_t {T : Nat → TT} {s : PS} {i so g w d : Nat} (hg : s.h 0 = (g : Int)) (l1 : ∀ k : Int → LR, lold T s 0 (g : Int) (i + 1) k = k (w : Int)) (h3 : (T (i + 2)).k = 3) (hd : (T (i + 2)).v = (d : Int)) (d1 : d ≤ 1) (h : s.tl (12 * so + (2 * w + d)) = true) : lnAmt T s i so = LR.bad 3 (i + 2) := by
  unfold lnAmt
  rw [hg]
  refine (l1 _).trans ((lnum_v h3 hd (by omega)).trans ?_)
  rw [if_pos]
  rw [show (2 * (w : Int) + (d : Int)).toNat = 2 * w + d by omega]
  exact h
theorem lnAmt_p {T : Nat → TT} {s : PS} {i so g w d k : Nat} {b : Int} (hg : s.h 0 = (g : Int)) (l1 : ∀ k : Int → LR, lold T s 0 (g : Int) (i + 1) k = k (w : Int)) (h3 : (T (i + 2)).k = 3) (hd : (T (i + 2)).v = (d : Int)) (d1 : d ≤ 1) (h : ¬ s.tl (12 * so + (2 * w + d)) = true) (hb : (if so = 2 ∨ so = 3 then (20 : Int) else 250) = b) (hk : k = 4 + (12 * so + (2 * w + d))) : lnAmt T s i so = lnum T (i + 3) 0 b fun v => LR.ok (ups s.h k v, s.nm, s.ld, ups s.tl (12 * so + (2 * w + d)) true) (i + 4) := by
  unfold lnAmt
  rw [hg]
  refine (l1 _).trans ((lnum_v h3 hd (by omega)).trans ?_)
  have e : (2 * (w : Int) + (d : Int)).toNat = 2 * w + d := by omega
  rw [e, if_neg h, hb, hk]
theorem lnx_l {T : Nat → TT} {s : PS} {i : Nat} (h : (T i).k = 64) : lnx T s i = lnLoad T s i := if_pos h
theorem lnx_g {T : Nat → TT} {s : PS} {i : Nat} (h : (T i).k = 65) : lnx T s i = lnGood T s i := by
  unfold lnx
  rw [if_neg (by omega), if_pos h]
theorem lnx_m {T : Nat → TT} {s : PS} {i : Nat} (h : (T i).k = 70) : lnx T s i = lnMan T s i := by
  unfold lnx
  rw [if_neg (by omega), if_neg (by omega), if_pos h]
theorem lnx_s {T : Nat → TT} {s : PS} {i : Nat} (h : (T i).k = 71) : lnx T s i = lnMiss T s i := by
  unfold lnx
  rw [if_neg (by omega), if_neg (by omega), if_neg (by omega), if_pos h]
theorem lnx_a {T : Nat → TT} {s : PS} {i so : Nat} (h : (T i).k = 66 + (so : Int)) (h4 : so < 4) : lnx T s i = lnAmt T s i so := by
  unfold lnx
  rw [if_neg (by omega), if_neg (by omega), if_neg (by omega), if_neg (by omega), if_pos (by omega), show ((T i).k - 66).toNat = so by omega]
theorem lnx_n {T : Nat → TT} {s : PS} {i : Nat} (h : (T i).k < 64 ∨ 71 < (T i).k) : lnx T s i = LR.bad 1 i := by
  unfold lnx
  rw [if_neg (by omega), if_neg (by omega), if_neg (by omega), if_neg (by omega), if_neg (by omega)]
theorem LRQ.i {F G : FW} {B : Nat → Int} {n lim : Nat} {r : Option Value} {x : LR} (h : LRQ F G B n lim r x) : ∃ z, r = some (.int z) := by
  obtain ⟨-, h⟩ := h
  cases x with
  | inl y => exact ⟨1, h.1⟩
  | inr y => exact ⟨0, h.1⟩
end
-- 63.b99h.lean.txt
section
set_option maxRecDepth 100000 in
set_option maxHeartbeats 4000000 in
theorem r_ln256 {F : FW} {B : Nat → Int} {n lim i : Nat} (hG : GW F) (hT : RTK F B n lim i) {s : PS} {g m : Nat} (hs : SRF F s) (hg : s.h 0 = (g : Int)) (hm : s.h 1 = (m : Int)) (hR : RWF F) {so : Nat} (hso : so < 4) (N : Nat) : Pv (ab_T (L_X11_line Z_X11_isWord Z_X11_bad Z_X11_next Z_X11_puts Z_X11_fresh Z_X11_readMisses Z_X11_takesName Z_X11_bitOf)) N 256 [some (.ref 69), some (.int (Int32.ofNat so)), none, none] [] F (fun r F' => LRQ F F' B n lim r (lnAmt (tok B n lim) s i so)) := by
  obtain ⟨Q, hQ⟩ : ∃ Q : Option Value → FW → Prop, Q = (fun r F' => LRQ F F' B n lim r (lnAmt (tok B n lim) s i so)) := ⟨_, rfl⟩
  rw [← hQ]
  have bb := hs.b
  unfold PSB at bb
  have bg : g ≤ 6 := by omega
  have bm : m ≤ 8 := by omega
  refine (show Pv (ab_T (L_X11_line Z_X11_isWord Z_X11_bad Z_X11_next Z_X11_puts Z_X11_fresh Z_X11_readMisses Z_X11_takesName Z_X11_bitOf)) N 256 [some (.ref 69), some (.int (Int32.ofNat so)), none, none] [] F Q from ?_)
  refine Pv.aload rfl rfl ?_
  refine Pv.callV (as := [.ref 69]) (rest := []) rfl rfl rfl (r_next hG hT) ?_
  rintro _ Gn ⟨rfl, xn, tn⟩
  have gn := RNX.G xn hG
  have sn1 := hs.lx (RLX.of xn)
  refine (show Pv _ _ 260 [some (.ref 69), some (.int (Int32.ofNat so)), none, none] [] Gn Q from ?_)
  refine Pv.aload rfl rfl ?_
  refine Pv.lit rfl ?_
  refine Pv.aload rfl rfl ?_
  refine Pv.getR (v := .ref 72) rfl rfl (GW.at (a := 69) (k := 7) (b := 72) gn (by decide)) ?_
  refine Pv.lit rfl ?_
  refine Pv.ald (z := Int32.ofNat g) rfl ((xn.1.1 72 0 (by decide)).trans (hs.at (by decide) hg)) ?_
  refine Pv.callV (as := [.ref 69, .int 14, .int (Int32.ofNat g)]) (rest := []) rfl rfl rfl (r_takesName (nm := sn s) (o := 14) (q := g) gn tn (by decide) (by omega) (sn1.g hg) ((RLX.of xn).RW hR)) ?_
  rintro _ G2 ⟨rfl, h2x, hv2x⟩
  have h2 : RSP Gn G2 B n lim (i + 1) (i + 2) (lkc (sn s) 14 g (tok B n lim (i + 1))) := h2x
  have hv2 : lkc (sn s) 14 g (tok B n lim (i + 1)) = 0 → G2.1 69 18 = oN (m_fst (fP (sn s) 14 (tok B n lim (i + 1)).v) g) := hv2x
  have g2 := RLX.G h2.1 gn
  refine (show Pv _ _ 272 [some (.ref 69), some (.int (Int32.ofNat so)), none, none] [.int (b2i (decide (lkc (sn s) 14 g (tok B n lim (i + 1)) = 0)))] G2 Q from ?_)
  refine Pv.if0 rfl (fun c1 => ?_) (fun c1 => ?_)
  · skip
    replace c1 : decide (b2i (decide (lkc (sn s) 14 g (tok B n lim (i + 1)) = 0)) = 0) = false := by simpa using c1
    replace c1 := of_decide_eq_false c1
    replace c1 := b2n.mp c1
    have e2 := of_decide_eq_true c1
    obtain ⟨w1, hw1, hf1, l1⟩ := lold_y (s := s) (o := 0) (fun _ => sn_g) (by omega) e2
    have hw18 : G2.1 69 18 = Int32.ofNat w1 := by rw [hv2 e2, hf1]; rfl
    have tn2 := (h2.2.1 e2).1
    have sn2 := sn1.lx h2.1
    have z2 : G2.1 69 15 = F.1 69 15 := (h2.2.1 e2).2.trans (xn.2.1 15 (by decide) (by decide) (by decide) (by decide) (by decide))
    have y2 : RSX F G2 := (RSX.of (RLX.of xn)).lx h2.1
    refine Pv.aload rfl rfl ?_
    refine Pv.getI (z := Int32.ofNat w1) rfl rfl (hw18) ?_
    refine Pv.istore (lo' := [some (.ref 69), some (.int (Int32.ofNat so)), some (.int (Int32.ofNat w1)), none]) rfl rfl ?_
    refine Pv.aload rfl rfl ?_
    refine Pv.getI (z := G2.1 69 11) rfl rfl (rfl) ?_
    refine Pv.lit rfl ?_
    refine Pv.icmp rfl (fun c2 => ?_) (fun c2 => ?_)
    · skip
      replace c2 := of_decide_eq_true c2
      have k3 := (ntf_2 tn2.2.2.2.1).mp c2
      have v14 := ntf_v tn2.2.2.2.1 k3
      have v0 := (tok_nok B n lim (i + 2) k3).1
      refine Pv.aload rfl rfl ?_
      refine Pv.getI (z := G2.1 69 14) rfl rfl (rfl) ?_
      refine Pv.lit rfl ?_
      refine Pv.icmp rfl (fun c3 => ?_) (fun c3 => ?_)
      · skip
        replace c3 := of_decide_eq_true c3
        have v1 := Int32.le_iff_toInt_le.mp c3
        rw [v14] at v1
        have v1b : (tok B n lim (i + 2)).v ≤ 1 := v1
        obtain ⟨d, hd⟩ : ∃ d : Nat, (tok B n lim (i + 2)).v = (d : Int) := ⟨(tok B n lim (i + 2)).v.toNat, by omega⟩
        have d1 : d ≤ 1 := by omega
        have e14 : G2.1 69 14 = Int32.ofNat d := by have := i_ofv v14 v0; rw [this, hd]; rfl
        have hxb := sn2.tl (w := so) (k := ((2 * w1) + d)) hso (by omega)
        refine Pv.lit rfl ?_
        refine Pv.iload rfl rfl ?_
        refine Pv.bin (z := Int32.ofNat (2 * w1)) rfl (i_mul 2 w1) ?_
        refine Pv.aload rfl rfl ?_
        refine Pv.getI (z := Int32.ofNat d) rfl rfl (e14) ?_
        refine Pv.bin (z := Int32.ofNat ((2 * w1) + d)) rfl (i_add (2 * w1) d) ?_
        refine Pv.istore (lo' := [some (.ref 69), some (.int (Int32.ofNat so)), some (.int (Int32.ofNat w1)), some (.int (Int32.ofNat ((2 * w1) + d)))]) rfl rfl ?_
        refine Pv.aload rfl rfl ?_
        refine Pv.getR (v := .ref 76) rfl rfl (GW.at (a := 69) (k := 21) (b := 76) g2 (by decide)) ?_
        refine Pv.iload rfl rfl ?_
        refine Pv.ald (z := G2.1 76 so) rfl (by rw [i_toNat (by omega)]) ?_
        refine Pv.iload rfl rfl ?_
        refine Pv.callI (as := [.int (G2.1 76 so), .int (Int32.ofNat ((2 * w1) + d))]) (rest := []) (z := b2i (xbit (G2.1 76 so) ((2 * w1) + d))) rfl rfl rfl (g_bitOf) ?_
        refine Pv.if0 rfl (fun c4 => ?_) (fun c4 => ?_)
        · skip
          replace c4 := of_decide_eq_true c4
          replace c4 := b2z.mp c4
          refine Pv.aload rfl rfl ?_
          refine Pv.getR (v := .ref 76) rfl rfl (GW.at (a := 69) (k := 21) (b := 76) g2 (by decide)) ?_
          refine Pv.iload rfl rfl ?_
          refine Pv.dup2 rfl ?_
          refine Pv.ald (z := G2.1 76 so) rfl (by rw [i_toNat (by omega)]) ?_
          refine Pv.lit rfl ?_
          refine Pv.iload rfl rfl ?_
          refine Pv.bin (z := 1 <<< ((Int32.ofNat ((2 * w1) + d)) &&& 31)) rfl (rfl) ?_
          refine Pv.bin (z := (G2.1 76 so) ||| (1 <<< ((Int32.ofNat ((2 * w1) + d)) &&& 31))) rfl (rfl) ?_
          refine Pv.astk (k := so) (z := (G2.1 76 so) ||| (1 <<< ((Int32.ofNat ((2 * w1) + d)) &&& 31))) rfl (i_toNat (by omega)) (rfl) ?_
          refine Pv.aload rfl rfl ?_
          refine Pv.callV (as := [.ref 69]) (rest := []) rfl rfl rfl (r_next (GW.fx g2 ((FX.rf (P := fun q => q = 76)).fp rfl)) (tn2.oth (a := 76) (Or.inr (Or.inl rfl)))) ?_
          rintro _ G4 ⟨rfl, xn4, tn4⟩
          have g4 := RNX.G xn4 (GW.fx g2 ((FX.rf (P := fun q => q = 76)).fp rfl))
          have sn4 := (sn2.told (w := so) (k := ((2 * w1) + d)) hso (by omega)).lx (RLX.of xn4)
          have y4 : RSX F G4 := y2.p76.lx (RLX.of xn4)
          have z4 : G4.1 69 15 = F.1 69 15 := (xn4.2.1 15 (by decide) (by decide) (by decide) (by decide) (by decide)).trans ((fp_ne (Or.inl (by decide))).trans z2)
          refine (show Pv _ _ 354 [some (.ref 69), some (.int (Int32.ofNat so)), some (.int (Int32.ofNat w1)), some (.int (Int32.ofNat ((2 * w1) + d)))] [] G4 Q from ?_)
          refine Pv.aload rfl rfl ?_
          refine Pv.lit rfl ?_
          refine Pv.lit rfl ?_
          refine Pv.iload rfl rfl ?_
          refine Pv.bin (z := Int32.ofNat (12 * so)) rfl (i_mul 12 so) ?_
          refine Pv.bin (z := Int32.ofNat (4 + (12 * so))) rfl (i_add 4 (12 * so)) ?_
          refine Pv.iload rfl rfl ?_
          refine Pv.bin (z := Int32.ofNat ((4 + (12 * so)) + ((2 * w1) + d))) rfl (i_add (4 + (12 * so)) ((2 * w1) + d)) ?_
          refine Pv.lit rfl ?_
          refine Pv.iload rfl rfl ?_
          refine Pv.lit rfl ?_
          refine Pv.icmp rfl (fun c5 => ?_) (fun c5 => ?_)
          · skip
            replace c5 := (i_le (a := 2) (b := so) (by omega) (by omega)).mp (of_decide_eq_true c5)
            refine Pv.lit rfl ?_
            refine Pv.callV (as := [.ref 69, .int (Int32.ofNat ((4 + (12 * so)) + ((2 * w1) + d))), .int 0, .int 20]) (rest := []) rfl rfl rfl (r_puts (k := (4 + (12 * so)) + ((2 * w1) + d)) g4 tn4 (by omega) 0 20) ?_
            rintro _ G5 ⟨rfl, p⟩
            refine (show Pv _ _ 380 [some (.ref 69), some (.int (Int32.ofNat so)), some (.int (Int32.ofNat w1)), some (.int (Int32.ofNat ((2 * w1) + d)))] [.int (b2i (decide (tnN (tok B n lim (i + 3)) (0 : Int32).toInt (20 : Int32).toInt = 0)))] G5 Q from ?_)
            exact Pv.zret rfl (by rw [hQ]; exact LRQ.put (lo := 0) (hi := 20) (s := (s.h, s.nm, s.ld, ups s.tl (12 * so + ((2 * w1) + d)) true)) y4 z4 sn4 (by omega) p (lnAmt_p hg l1 k3 hd d1 (fun z => absurd (hxb.trans z) (by rw [c4]; decide)) (if_pos (by omega)) (by omega)))
          · skip
            replace c5 := mt (i_le (a := 2) (b := so) (by omega) (by omega)).mpr (of_decide_eq_false c5)
            refine Pv.lit rfl ?_
            refine Pv.goto rfl ?_
            refine Pv.callV (as := [.ref 69, .int (Int32.ofNat ((4 + (12 * so)) + ((2 * w1) + d))), .int 0, .int 250]) (rest := []) rfl rfl rfl (r_puts (k := (4 + (12 * so)) + ((2 * w1) + d)) g4 tn4 (by omega) 0 250) ?_
            rintro _ G5 ⟨rfl, p⟩
            refine (show Pv _ _ 380 [some (.ref 69), some (.int (Int32.ofNat so)), some (.int (Int32.ofNat w1)), some (.int (Int32.ofNat ((2 * w1) + d)))] [.int (b2i (decide (tnN (tok B n lim (i + 3)) (0 : Int32).toInt (250 : Int32).toInt = 0)))] G5 Q from ?_)
            exact Pv.zret rfl (by rw [hQ]; exact LRQ.put (lo := 0) (hi := 250) (s := (s.h, s.nm, s.ld, ups s.tl (12 * so + ((2 * w1) + d)) true)) y4 z4 sn4 (by omega) p (lnAmt_p hg l1 k3 hd d1 (fun z => absurd (hxb.trans z) (by rw [c4]; decide)) (if_neg (by omega)) (by omega)))
        · skip
          replace c4 := of_decide_eq_false c4
          replace c4 := b2n.mp c4
          refine Pv.aload rfl rfl ?_
          refine Pv.lit rfl ?_
          refine Pv.callVI (as := [.ref 69, .int 3]) (rest := []) (z := 0) rfl rfl rfl (r_bad (c := 3) g2) ?_
          exact Pv.zret rfl (by rw [hQ]; exact LRQ.rb (j := i + 2) (c := 3) (lnAmt_t hg l1 k3 hd d1 (hxb.symm.trans c4)) y2 tn2)
      · skip
        replace c3 := of_decide_eq_false c3
        refine Pv.aload rfl rfl ?_
        refine Pv.lit rfl ?_
        refine Pv.callVI (as := [.ref 69, .int 2]) (rest := []) (z := 0) rfl rfl rfl (r_bad (c := 2) g2) ?_
        have v1 := mt Int32.le_iff_toInt_le.mpr c3
        rw [v14] at v1
        have v1b : ¬ (tok B n lim (i + 2)).v ≤ 1 := v1
        exact Pv.zret rfl (by rw [hQ]; exact LRQ.rb (j := i + 2) (c := 2) (lnAmt_r hg l1 k3 (by omega)) y2 tn2)
    · skip
      replace c2 := of_decide_eq_false c2
      refine Pv.aload rfl rfl ?_
      refine Pv.lit rfl ?_
      refine Pv.callVI (as := [.ref 69, .int 1]) (rest := []) (z := 0) rfl rfl rfl (r_bad (c := 1) g2) ?_
      exact Pv.zret rfl (by rw [hQ]; exact LRQ.rb (j := i + 2) (c := 1) (lnAmt_k hg l1 (fun z => c2 ((ntf_2 tn2.2.2.2.1).mpr z))) y2 tn2)
  · skip
    replace c1 : decide (b2i (decide (lkc (sn s) 14 g (tok B n lim (i + 1)) = 0)) = 0) = true := by simpa using c1
    replace c1 := of_decide_eq_true c1
    replace c1 := b2z.mp c1
    refine Pv.lit rfl ?_
    have en := of_decide_eq_false c1
    exact Pv.zret rfl (by rw [hQ]; exact LRQ.bad (by unfold lnAmt; rw [hg]; exact lold_n (fun _ => sn_g) (by omega) en) ((RSX.of (RLX.of xn)).lx h2.1) (congrArg Int32.toInt (h2.2.2 en).1) (h2.2.2 en).2)
set_option maxRecDepth 100000 in
set_option maxHeartbeats 4000000 in
theorem r_line {F : FW} {B : Nat → Int} {n lim i : Nat} (hG : GW F) (hT : RTK F B n lim i) {s : PS} {g m : Nat} (hs : SRF F s) (hg : s.h 0 = (g : Int)) (hm : s.h 1 = (m : Int)) (hR : RWF F) {q : Nat} (hq : s.h 3 = (q : Int)) : Pm Z_X11_line [.ref 69] F (fun r F' => LRQ F F' B n lim r (lnx (tok B n lim) s i)) := by
  refine Pm.of fun N => ?_
  obtain ⟨Q, hQ⟩ : ∃ Q : Option Value → FW → Prop, Q = (fun r F' => LRQ F F' B n lim r (lnx (tok B n lim) s i)) := ⟨_, rfl⟩
  rw [← hQ]
  have bb := hs.b
  unfold PSB at bb
  have bg : g ≤ 6 := by omega
  have bm : m ≤ 8 := by omega
  refine (show Pv (ab_T (L_X11_line Z_X11_isWord Z_X11_bad Z_X11_next Z_X11_puts Z_X11_fresh Z_X11_readMisses Z_X11_takesName Z_X11_bitOf)) N 0 [some (.ref 69), none, none, none] [] F Q from ?_)
  refine Pv.aload rfl rfl ?_
  refine Pv.lit rfl ?_
  refine Pv.callVI (as := [.ref 69, .long 1819238756]) (rest := []) (z := b2i (decide ((tok B n lim i).k = 64 + ((0 : Nat) : Int)))) rfl rfl rfl (r_isWord (j := 0) hT.2.2.2.1 (tok_wok _ _ _ _) (by decide) (by decide +kernel)) ?_
  refine Pv.if0 rfl (fun c1 => ?_) (fun c1 => ?_)
  · skip
    replace c1 := of_decide_eq_true c1
    replace c1 := b2z.mp c1
    refine Pv.aload rfl rfl ?_
    refine Pv.lit rfl ?_
    refine Pv.callVI (as := [.ref 69, .long 1735356260]) (rest := []) (z := b2i (decide ((tok B n lim i).k = 64 + ((1 : Nat) : Int)))) rfl rfl rfl (r_isWord (j := 1) hT.2.2.2.1 (tok_wok _ _ _ _) (by decide) (by decide +kernel)) ?_
    refine Pv.if0 rfl (fun c2 => ?_) (fun c2 => ?_)
    · skip
      replace c2 := of_decide_eq_true c2
      replace c2 := b2z.mp c2
      refine Pv.aload rfl rfl ?_
      refine Pv.lit rfl ?_
      refine Pv.callVI (as := [.ref 69, .long 7168366]) (rest := []) (z := b2i (decide ((tok B n lim i).k = 64 + ((6 : Nat) : Int)))) rfl rfl rfl (r_isWord (j := 6) hT.2.2.2.1 (tok_wok _ _ _ _) (by decide) (by decide +kernel)) ?_
      refine Pv.if0 rfl (fun c3 => ?_) (fun c3 => ?_)
      · skip
        replace c3 := of_decide_eq_true c3
        replace c3 := b2z.mp c3
        refine Pv.aload rfl rfl ?_
        refine Pv.lit rfl ?_
        refine Pv.callVI (as := [.ref 69, .long 120299675936115]) (rest := []) (z := b2i (decide ((tok B n lim i).k = 64 + ((7 : Nat) : Int)))) rfl rfl rfl (r_isWord (j := 7) hT.2.2.2.1 (tok_wok _ _ _ _) (by decide) (by decide +kernel)) ?_
        refine Pv.if0 rfl (fun c4 => ?_) (fun c4 => ?_)
        · skip
          replace c4 := of_decide_eq_true c4
          replace c4 := b2z.mp c4
          refine Pv.aload rfl rfl ?_
          refine Pv.lit rfl ?_
          refine Pv.callVI (as := [.ref 69, .long 495874696043]) (rest := []) (z := b2i (decide ((tok B n lim i).k = 64 + ((2 : Nat) : Int)))) rfl rfl rfl (r_isWord (j := 2) hT.2.2.2.1 (tok_wok _ _ _ _) (by decide) (by decide +kernel)) ?_
          refine Pv.if0 rfl (fun c5 => ?_) (fun c5 => ?_)
          · skip
            replace c5 := of_decide_eq_true c5
            replace c5 := b2z.mp c5
            refine Pv.aload rfl rfl ?_
            refine Pv.lit rfl ?_
            refine Pv.callVI (as := [.ref 69, .long 512735736947]) (rest := []) (z := b2i (decide ((tok B n lim i).k = 64 + ((3 : Nat) : Int)))) rfl rfl rfl (r_isWord (j := 3) hT.2.2.2.1 (tok_wok _ _ _ _) (by decide) (by decide +kernel)) ?_
            refine Pv.if0 rfl (fun c6 => ?_) (fun c6 => ?_)
            · skip
              replace c6 := of_decide_eq_true c6
              replace c6 := b2z.mp c6
              refine Pv.aload rfl rfl ?_
              refine Pv.lit rfl ?_
              refine Pv.callVI (as := [.ref 69, .long 1700885619]) (rest := []) (z := b2i (decide ((tok B n lim i).k = 64 + ((4 : Nat) : Int)))) rfl rfl rfl (r_isWord (j := 4) hT.2.2.2.1 (tok_wok _ _ _ _) (by decide) (by decide +kernel)) ?_
              refine Pv.if0 rfl (fun c7 => ?_) (fun c7 => ?_)
              · skip
                replace c7 := of_decide_eq_true c7
                replace c7 := b2z.mp c7
                refine Pv.aload rfl rfl ?_
                refine Pv.lit rfl ?_
                refine Pv.callVI (as := [.ref 69, .long 469785863539]) (rest := []) (z := b2i (decide ((tok B n lim i).k = 64 + ((5 : Nat) : Int)))) rfl rfl rfl (r_isWord (j := 5) hT.2.2.2.1 (tok_wok _ _ _ _) (by decide) (by decide +kernel)) ?_
                refine Pv.if0 rfl (fun c8 => ?_) (fun c8 => ?_)
                · skip
                  replace c8 := of_decide_eq_true c8
                  replace c8 := b2z.mp c8
                  refine Pv.lit rfl ?_
                  refine Pv.istore (lo' := [some (.ref 69), some (.int (-1)), none, none]) rfl rfl ?_
                  refine Pv.iload rfl rfl ?_
                  refine Pv.if0 rfl (fun c9 => ?_) (fun c9 => ?_)
                  · skip
                    replace c9 := of_decide_eq_true c9
                    exact absurd c9 (by decide)
                  · skip
                    replace c9 := of_decide_eq_false c9
                    refine Pv.aload rfl rfl ?_
                    refine Pv.lit rfl ?_
                    refine Pv.callVI (as := [.ref 69, .int 1]) (rest := []) (z := 0) rfl rfl rfl (r_bad (c := 1) hG) ?_
                    have e7 := of_decide_eq_false c1
                    have e48 := of_decide_eq_false c2
                    have e109 := of_decide_eq_false c3
                    have e180 := of_decide_eq_false c4
                    have e195 := of_decide_eq_false c5
                    have e209 := of_decide_eq_false c6
                    have e223 := of_decide_eq_false c7
                    have e237 := of_decide_eq_false c8
                    exact Pv.zret rfl (by rw [hQ]; exact LRQ.rb (j := i) (c := 1) (lnx_n (by omega)) RSX.rf hT)
                · skip
                  replace c8 := of_decide_eq_false c8
                  replace c8 := b2n.mp c8
                  refine Pv.lit rfl ?_
                  refine Pv.goto rfl ?_
                  refine Pv.istore (lo' := [some (.ref 69), some (.int 3), none, none]) rfl rfl ?_
                  refine Pv.iload rfl rfl ?_
                  refine Pv.if0 rfl (fun c10 => ?_) (fun c10 => ?_)
                  · skip
                    replace c10 := (i_le (a := 0) (b := 3) (by omega) (by omega)).mp (of_decide_eq_true c10)
                    have ek := of_decide_eq_true c8
                    rw [hQ, lnx_a (so := 3) (by omega) (by decide)]
                    exact r_ln256 hG hT hs hg hm hR (so := 3) (by decide) _
                  · skip
                    replace c10 := mt (i_le (a := 0) (b := 3) (by omega) (by omega)).mpr (of_decide_eq_false c10)
                    omega
              · skip
                replace c7 := of_decide_eq_false c7
                replace c7 := b2n.mp c7
                refine Pv.lit rfl ?_
                refine Pv.goto rfl ?_
                refine Pv.istore (lo' := [some (.ref 69), some (.int 2), none, none]) rfl rfl ?_
                refine Pv.iload rfl rfl ?_
                refine Pv.if0 rfl (fun c11 => ?_) (fun c11 => ?_)
                · skip
                  replace c11 := (i_le (a := 0) (b := 2) (by omega) (by omega)).mp (of_decide_eq_true c11)
                  have ek := of_decide_eq_true c7
                  rw [hQ, lnx_a (so := 2) (by omega) (by decide)]
                  exact r_ln256 hG hT hs hg hm hR (so := 2) (by decide) _
                · skip
                  replace c11 := mt (i_le (a := 0) (b := 2) (by omega) (by omega)).mpr (of_decide_eq_false c11)
                  omega
            · skip
              replace c6 := of_decide_eq_false c6
              replace c6 := b2n.mp c6
              refine Pv.lit rfl ?_
              refine Pv.goto rfl ?_
              refine Pv.istore (lo' := [some (.ref 69), some (.int 1), none, none]) rfl rfl ?_
              refine Pv.iload rfl rfl ?_
              refine Pv.if0 rfl (fun c12 => ?_) (fun c12 => ?_)
              · skip
                replace c12 := (i_le (a := 0) (b := 1) (by omega) (by omega)).mp (of_decide_eq_true c12)
                have ek := of_decide_eq_true c6
                rw [hQ, lnx_a (so := 1) (by omega) (by decide)]
                exact r_ln256 hG hT hs hg hm hR (so := 1) (by decide) _
              · skip
                replace c12 := mt (i_le (a := 0) (b := 1) (by omega) (by omega)).mpr (of_decide_eq_false c12)
                omega
          · skip
            replace c5 := of_decide_eq_false c5
            replace c5 := b2n.mp c5
            refine Pv.lit rfl ?_
            refine Pv.goto rfl ?_
            refine Pv.istore (lo' := [some (.ref 69), some (.int 0), none, none]) rfl rfl ?_
            refine Pv.iload rfl rfl ?_
            refine Pv.if0 rfl (fun c13 => ?_) (fun c13 => ?_)
            · skip
              replace c13 := (i_le (a := 0) (b := 0) (by omega) (by omega)).mp (of_decide_eq_true c13)
              have ek := of_decide_eq_true c5
              rw [hQ, lnx_a (so := 0) (by omega) (by decide)]
              exact r_ln256 hG hT hs hg hm hR (so := 0) (by decide) _
            · skip
              replace c13 := mt (i_le (a := 0) (b := 0) (by omega) (by omega)).mpr (of_decide_eq_false c13)
              omega
        · skip
          replace c4 := of_decide_eq_false c4
          replace c4 := b2n.mp c4
          have ek := of_decide_eq_true c4
          refine Pv.aload rfl rfl ?_
          refine Pv.callV (as := [.ref 69]) (rest := []) rfl rfl rfl (r_misses hG hT hs hg hm hR hq) ?_
          rintro r0 G hr
          obtain ⟨z, rfl⟩ : ∃ z, r0 = some (.int z) := LRQ.i hr
          refine (show Pv _ _ 187 [some (.ref 69), none, none, none] [.int z] G Q from ?_)
          exact Pv.zret rfl (by rw [hQ]; exact by rw [lnx_s (by omega)]; exact hr)
      · skip
        replace c3 := of_decide_eq_false c3
        replace c3 := b2n.mp c3
        have ek := of_decide_eq_true c3
        rw [hQ, lnx_m (by omega)]
        exact r_ln112 hG hT hs hg hm hR _
    · skip
      replace c2 := of_decide_eq_false c2
      replace c2 := b2n.mp c2
      have ek := of_decide_eq_true c2
      rw [hQ, lnx_g (by omega)]
      exact r_ln51 hG hT hs hg hm hR _
  · skip
    replace c1 := of_decide_eq_false c1
    replace c1 := b2n.mp c1
    have ek := of_decide_eq_true c1
    rw [hQ, lnx_l (by omega)]
    exact r_ln10 hG hT hs hg hm hR _
end
-- 63.b9a.st.lean.txt
section
/-! ===== the reference: a Strait was read ===== -/
def STE (F G : FW) : Prop := FX (fun q => q = 69 ∨ q = 71 ∨ q = 74) F G ∧ (∀ k, k ≠ 25 → G.1 69 k = F.1 69 k) ∧ G.1 69 25 = 0 ∧ (∀ k, G.2.2.1 69 k = F.2.2.1 69 k) ∧ (∀ j, j < 14 → G.2.2.1 74 j = F.2.2.1 74 (14 + j)) ∧ (∀ k, k < 120 → G.1 71 k = F.1 72 k) ∧ (∀ k, k < 12 → G.1 71 (124 + k) = F.1 72 (4 + k)) ∧ (∀ k, k < 8 → G.1 71 (172 + k) = F.1 72 (52 + k)) ∧ ∀ k, 120 ≤ k → k < 434 → (k < 124 ∨ 136 ≤ k) → (k < 172 ∨ 180 ≤ k) → G.1 71 k = 0
theorem STE.mk {F A C D E : FW} (xa : FX (fun q => q = 71) F A) (ha : ∀ j, j < 434 → A.1 71 j = (if j < 120 then F.1 72 j else 0)) (xc : FX (fun q => q = 74) A C) (hc : ∀ j, j < 14 → C.2.2.1 74 j = A.2.2.1 74 (14 + j)) (xd : FX (fun q => q = 71) C D) (hd : ∀ j, j < 12 → D.1 71 (124 + j) = C.1 71 (4 + j)) (hd2 : ∀ j, (j < 124 ∨ 136 ≤ j) → D.1 71 j = C.1 71 j) (xe : FX (fun q => q = 71) D E) (he : ∀ j, j < 8 → E.1 71 (172 + j) = D.1 71 (52 + j)) (he2 : ∀ j, (j < 172 ∨ 180 ≤ j) → E.1 71 j = D.1 71 j) : STE F (fp E 69 25 0) := by
  have c71 : ∀ j, C.1 71 j = A.1 71 j := fun j => xc.1 71 j (by decide)
  have e9 : ∀ j, E.1 69 j = F.1 69 j := fun j => (xe.1 69 j (by decide)).trans ((xd.1 69 j (by decide)).trans ((xc.1 69 j (by decide)).trans (xa.1 69 j (by decide))))
  have l : ∀ a j, a ≠ 71 → a ≠ 74 → E.2.2.1 a j = F.2.2.1 a j := fun a j h1 h2 => (xe.2.1 a j h1).trans ((xd.2.1 a j h1).trans ((xc.2.1 a j h2).trans (xa.2.1 a j h1)))
  have p7 : ∀ k, (fp E 69 25 0).1 71 k = E.1 71 k := fun k => fp_ne (Or.inl (by decide))
  refine ⟨(((xa.wd fun q h => Or.inr (Or.inl h)).tr (xc.wd fun q h => Or.inr (Or.inr h))).tr ((xd.wd fun q h => Or.inr (Or.inl h)).tr (xe.wd fun q h => Or.inr (Or.inl h)))).fp (Or.inl rfl), fun k h => (fp_ne (Or.inr h)).trans (e9 k), fp_eq, fun k => l 69 k (by decide) (by decide), fun j hj => (xe.2.1 74 j (by decide)).trans ((xd.2.1 74 j (by decide)).trans ((hc j hj).trans (xa.2.1 74 _ (by decide)))), fun k hk => ?_, fun k hk => ?_, fun k hk => ?_, fun k h1 h2 h3 h4 => ?_⟩
  · rw [p7, he2 k (Or.inl (by omega)), hd2 k (Or.inl (by omega)), c71, ha k (by omega), if_pos hk]
  · rw [p7, he2 _ (Or.inl (by omega)), hd k hk, c71, ha _ (by omega), if_pos (by omega)]
  · rw [p7, he k hk, hd2 _ (Or.inl (by omega)), c71, ha _ (by omega), if_pos (by omega)]
  · rw [p7, he2 k h4, hd2 k h3, c71, ha k h2, if_neg (by omega)]
end
-- 63.b9aa.lean.txt
section
set_option maxRecDepth 100000 in
set_option maxHeartbeats 4000000 in
theorem r_st123 {F : FW} {o1 : Option Value} (hG : GW F) (N : Nat) : Pv (ab_T (L_X11_strait Z_X11_taken Z_X11_next Z_X11_line Z_X11_sign)) N 123 [some (.ref 69), o1] [] F (fun r F' => r = some (.int (F.1 69 19)) ∧ STE F F') := by
  obtain ⟨Q, hQ⟩ : ∃ Q : Option Value → FW → Prop, Q = (fun r F' => r = some (.int (F.1 69 19)) ∧ STE F F') := ⟨_, rfl⟩
  rw [← hQ]
  refine (show Pv (ab_T (L_X11_strait Z_X11_taken Z_X11_next Z_X11_line Z_X11_sign)) N 123 [some (.ref 69), o1] [] F Q from ?_)
  refine Pv.lit rfl ?_
  refine Pv.istore (lo' := [some (.ref 69), some (.int 0)]) rfl rfl ?_
  refine Pv.lp (ι := Nat × FW) (lof := fun ⟨i1, A⟩ => [some (.ref 69), some (.int (Int32.ofNat i1))]) (Ff := fun ⟨i1, A⟩ => A) (P := fun ⟨i1, A⟩ => (i1 ≤ 434) ∧ (FX (fun q => q = 71) F A) ∧ (∀ j, j < i1 → A.1 71 j = (if j < 120 then F.1 72 j else 0))) ?_ (0, F) (⟨Nat.zero_le _, FX.rf, fun j hj => absurd hj (Nat.not_lt_zero j)⟩)
  rintro N1 hN2 ⟨i1, A⟩ hi3 ih4
  refine (show Pv _ _ 125 [some (.ref 69), some (.int (Int32.ofNat i1))] [] A Q from ?_)
  obtain ⟨hi1, xa, ha⟩ := hi3
  have gA := GW.fx hG xa
  refine Pv.iloadS rfl rfl ?_
  refine Pv.lit rfl ?_
  refine Pv.icmp rfl (fun c5 => ?_) (fun c5 => ?_)
  · skip
    replace c5 := (i_le (a := 434) (b := i1) (by omega) (by omega)).mp (of_decide_eq_true c5)
    refine Pv.lit rfl ?_
    refine Pv.istore (lo' := [some (.ref 69), some (.int 0)]) rfl rfl ?_
    refine Pv.lp (ι := Nat × FW) (lof := fun ⟨i2, C⟩ => [some (.ref 69), some (.int (Int32.ofNat i2))]) (Ff := fun ⟨i2, C⟩ => C) (P := fun ⟨i2, C⟩ => (i2 ≤ 14) ∧ (FX (fun q => q = 74) A C) ∧ (∀ j, j < i2 → C.2.2.1 74 j = A.2.2.1 74 (14 + j)) ∧ (∀ j, 14 ≤ j → C.2.2.1 74 j = A.2.2.1 74 j)) ?_ (0, A) (⟨Nat.zero_le _, FX.rf, fun j hj => absurd hj (Nat.not_lt_zero j), fun _ _ => rfl⟩)
    rintro N6 hN7 ⟨i2, C⟩ hi8 ih9
    refine (show Pv _ _ 162 [some (.ref 69), some (.int (Int32.ofNat i2))] [] C Q from ?_)
    obtain ⟨hi2, xc, hc, hc2⟩ := hi8
    have gC := GW.fx gA xc
    refine Pv.iloadS rfl rfl ?_
    refine Pv.lit rfl ?_
    refine Pv.icmp rfl (fun c10 => ?_) (fun c10 => ?_)
    · skip
      replace c10 := (i_le (a := 14) (b := i2) (by omega) (by omega)).mp (of_decide_eq_true c10)
      refine Pv.lit rfl ?_
      refine Pv.istore (lo' := [some (.ref 69), some (.int 0)]) rfl rfl ?_
      refine Pv.lp (ι := Nat × FW) (lof := fun ⟨i3, D⟩ => [some (.ref 69), some (.int (Int32.ofNat i3))]) (Ff := fun ⟨i3, D⟩ => D) (P := fun ⟨i3, D⟩ => (i3 ≤ 12) ∧ (FX (fun q => q = 71) C D) ∧ (∀ j, j < i3 → D.1 71 (124 + j) = C.1 71 (4 + j)) ∧ (∀ j, (j < 124 ∨ 136 ≤ j) → D.1 71 j = C.1 71 j)) ?_ (0, C) (⟨Nat.zero_le _, FX.rf, fun j hj => absurd hj (Nat.not_lt_zero j), fun _ _ => rfl⟩)
      rintro N11 hN12 ⟨i3, D⟩ hi13 ih14
      refine (show Pv _ _ 191 [some (.ref 69), some (.int (Int32.ofNat i3))] [] D Q from ?_)
      obtain ⟨hi3, xd, hd, hd2⟩ := hi13
      have gD := GW.fx gC xd
      refine Pv.iloadS rfl rfl ?_
      refine Pv.lit rfl ?_
      refine Pv.icmp rfl (fun c15 => ?_) (fun c15 => ?_)
      · skip
        replace c15 := (i_le (a := 12) (b := i3) (by omega) (by omega)).mp (of_decide_eq_true c15)
        refine Pv.lit rfl ?_
        refine Pv.istore (lo' := [some (.ref 69), some (.int 0)]) rfl rfl ?_
        refine Pv.lp (ι := Nat × FW) (lof := fun ⟨i4, E⟩ => [some (.ref 69), some (.int (Int32.ofNat i4))]) (Ff := fun ⟨i4, E⟩ => E) (P := fun ⟨i4, E⟩ => (i4 ≤ 8) ∧ (FX (fun q => q = 71) D E) ∧ (∀ j, j < i4 → E.1 71 (172 + j) = D.1 71 (52 + j)) ∧ (∀ j, (j < 172 ∨ 180 ≤ j) → E.1 71 j = D.1 71 j)) ?_ (0, D) (⟨Nat.zero_le _, FX.rf, fun j hj => absurd hj (Nat.not_lt_zero j), fun _ _ => rfl⟩)
        rintro N16 hN17 ⟨i4, E⟩ hi18 ih19
        refine (show Pv _ _ 222 [some (.ref 69), some (.int (Int32.ofNat i4))] [] E Q from ?_)
        obtain ⟨hi4, xe, he, he2⟩ := hi18
        have gE := GW.fx gD xe
        refine Pv.iloadS rfl rfl ?_
        refine Pv.lit rfl ?_
        refine Pv.icmp rfl (fun c20 => ?_) (fun c20 => ?_)
        · skip
          replace c20 := (i_le (a := 8) (b := i4) (by omega) (by omega)).mp (of_decide_eq_true c20)
          refine Pv.aload rfl rfl ?_
          refine Pv.lit rfl ?_
          refine Pv.putI rfl rfl ?_
          refine Pv.aload rfl rfl ?_
          refine Pv.getI (z := F.1 69 19) rfl rfl ((fp_ne (Or.inr (by decide))).trans ((xe.1 69 19 (by decide)).trans ((xd.1 69 19 (by decide)).trans ((xc.1 69 19 (by decide)).trans (xa.1 69 19 (by decide)))))) ?_
          exact Pv.ret rfl (by rw [hQ]; exact ⟨rfl, STE.mk xa (fun j hj => ha j (by omega)) xc (fun j hj => hc j (by omega)) xd (fun j hj => hd j (by omega)) hd2 xe (fun j hj => he j (by omega)) he2⟩)
        · skip
          replace c20 := mt (i_le (a := 8) (b := i4) (by omega) (by omega)).mpr (of_decide_eq_false c20)
          refine Pv.aload rfl rfl ?_
          refine Pv.getR (v := .ref 71) rfl rfl (GW.at (a := 69) (k := 6) (b := 71) gE (by decide)) ?_
          refine Pv.lit rfl ?_
          refine Pv.iload rfl rfl ?_
          refine Pv.bin (z := Int32.ofNat (172 + i4)) rfl (i_add 172 i4) ?_
          refine Pv.aload rfl rfl ?_
          refine Pv.getR (v := .ref 71) rfl rfl (GW.at (a := 69) (k := 6) (b := 71) gE (by decide)) ?_
          refine Pv.lit rfl ?_
          refine Pv.iload rfl rfl ?_
          refine Pv.bin (z := Int32.ofNat (52 + i4)) rfl (i_add 52 i4) ?_
          refine Pv.ald (z := D.1 71 (52 + i4)) rfl (by rw [i_toNat (by omega)]; exact he2 _ (Or.inl (by omega))) ?_
          refine Pv.astk (k := 172 + i4) (z := D.1 71 (52 + i4)) rfl (i_toNat (by omega)) (rfl) ?_
          refine Pv.iinc (y := Int32.ofNat (i4 + 1)) (lo' := [some (.ref 69), some (.int (Int32.ofNat (i4 + 1)))]) rfl rfl (i_add i4 1) rfl ?_
          refine Pv.goto rfl ?_
          exact ih19 (i4 + 1, (fp E 71 (172 + i4) (D.1 71 (52 + i4)))) (⟨by omega, xe.fp rfl, fun j hj => Or.elim (Classical.em (j = i4)) (fun e => by rw [e]; exact fp_eq) (fun e => (fp_ne (Or.inr (by omega))).trans (he j (by omega))), fun j hj => (fp_ne (Or.inr (by omega))).trans (he2 j hj)⟩)
      · skip
        replace c15 := mt (i_le (a := 12) (b := i3) (by omega) (by omega)).mpr (of_decide_eq_false c15)
        refine Pv.aload rfl rfl ?_
        refine Pv.getR (v := .ref 71) rfl rfl (GW.at (a := 69) (k := 6) (b := 71) gD (by decide)) ?_
        refine Pv.lit rfl ?_
        refine Pv.iload rfl rfl ?_
        refine Pv.bin (z := Int32.ofNat (124 + i3)) rfl (i_add 124 i3) ?_
        refine Pv.aload rfl rfl ?_
        refine Pv.getR (v := .ref 71) rfl rfl (GW.at (a := 69) (k := 6) (b := 71) gD (by decide)) ?_
        refine Pv.lit rfl ?_
        refine Pv.iload rfl rfl ?_
        refine Pv.bin (z := Int32.ofNat (4 + i3)) rfl (i_add 4 i3) ?_
        refine Pv.ald (z := C.1 71 (4 + i3)) rfl (by rw [i_toNat (by omega)]; exact hd2 _ (Or.inl (by omega))) ?_
        refine Pv.astk (k := 124 + i3) (z := C.1 71 (4 + i3)) rfl (i_toNat (by omega)) (rfl) ?_
        refine Pv.iinc (y := Int32.ofNat (i3 + 1)) (lo' := [some (.ref 69), some (.int (Int32.ofNat (i3 + 1)))]) rfl rfl (i_add i3 1) rfl ?_
        refine Pv.goto rfl ?_
        exact ih14 (i3 + 1, (fp D 71 (124 + i3) (C.1 71 (4 + i3)))) (⟨by omega, xd.fp rfl, fun j hj => Or.elim (Classical.em (j = i3)) (fun e => by rw [e]; exact fp_eq) (fun e => (fp_ne (Or.inr (by omega))).trans (hd j (by omega))), fun j hj => (fp_ne (Or.inr (by omega))).trans (hd2 j hj)⟩)
    · skip
      replace c10 := mt (i_le (a := 14) (b := i2) (by omega) (by omega)).mpr (of_decide_eq_false c10)
      refine Pv.aload rfl rfl ?_
      refine Pv.getR (v := .ref 74) rfl rfl (GW.at (a := 69) (k := 9) (b := 74) gC (by decide)) ?_
      refine Pv.iload rfl rfl ?_
      refine Pv.aload rfl rfl ?_
      refine Pv.getR (v := .ref 74) rfl rfl (GW.at (a := 69) (k := 9) (b := 74) gC (by decide)) ?_
      refine Pv.lit rfl ?_
      refine Pv.iload rfl rfl ?_
      refine Pv.bin (z := Int32.ofNat (14 + i2)) rfl (i_add 14 i2) ?_
      refine Pv.lald (z := A.2.2.1 74 (14 + i2)) rfl (by rw [i_toNat (by omega)]; exact hc2 _ (by omega)) ?_
      refine Pv.lastk (k := i2) rfl (i_toNat (by omega)) ?_
      refine Pv.iinc (y := Int32.ofNat (i2 + 1)) (lo' := [some (.ref 69), some (.int (Int32.ofNat (i2 + 1)))]) rfl rfl (i_add i2 1) rfl ?_
      refine Pv.goto rfl ?_
      exact ih9 (i2 + 1, (fpl C 74 i2 (A.2.2.1 74 (14 + i2)))) (⟨by omega, xc.fpl rfl, fun j hj => Or.elim (Classical.em (j = i2)) (fun e => by rw [e]; exact fpl_eq) (fun e => (fpl_ne (Or.inr e)).trans (hc j (by omega))), fun j hj => (fpl_ne (Or.inr (by omega))).trans (hc2 j hj)⟩)
  · skip
    replace c5 := mt (i_le (a := 434) (b := i1) (by omega) (by omega)).mpr (of_decide_eq_false c5)
    refine Pv.aload rfl rfl ?_
    refine Pv.getR (v := .ref 71) rfl rfl (GW.at (a := 69) (k := 6) (b := 71) gA (by decide)) ?_
    refine Pv.iload rfl rfl ?_
    refine Pv.iload rfl rfl ?_
    refine Pv.lit rfl ?_
    refine Pv.icmp rfl (fun c21 => ?_) (fun c21 => ?_)
    · skip
      replace c21 := (i_le (a := 120) (b := i1) (by omega) (by omega)).mp (of_decide_eq_true c21)
      refine Pv.lit rfl ?_
      refine Pv.astk (k := i1) (z := 0) rfl (i_toNat (by omega)) (rfl) ?_
      refine Pv.iinc (y := Int32.ofNat (i1 + 1)) (lo' := [some (.ref 69), some (.int (Int32.ofNat (i1 + 1)))]) rfl rfl (i_add i1 1) rfl ?_
      refine Pv.goto rfl ?_
      exact ih4 (i1 + 1, (fp A 71 i1 0)) (⟨by omega, xa.fp rfl, fun j hj => Or.elim (Classical.em (j = i1)) (fun e => by rw [e]; exact fp_eq.trans (if_neg (by omega)).symm) (fun e => (fp_ne (Or.inr e)).trans (ha j (by omega)))⟩)
    · skip
      replace c21 := mt (i_le (a := 120) (b := i1) (by omega) (by omega)).mpr (of_decide_eq_false c21)
      refine Pv.aload rfl rfl ?_
      refine Pv.getR (v := .ref 72) rfl rfl (GW.at (a := 69) (k := 7) (b := 72) gA (by decide)) ?_
      refine Pv.iload rfl rfl ?_
      refine Pv.ald (z := F.1 72 i1) rfl (by rw [i_toNat (by omega)]; exact xa.1 72 _ (by decide)) ?_
      refine Pv.goto rfl ?_
      refine Pv.astk (k := i1) (z := F.1 72 i1) rfl (i_toNat (by omega)) (rfl) ?_
      refine Pv.iinc (y := Int32.ofNat (i1 + 1)) (lo' := [some (.ref 69), some (.int (Int32.ofNat (i1 + 1)))]) rfl rfl (i_add i1 1) rfl ?_
      refine Pv.goto rfl ?_
      exact ih4 (i1 + 1, (fp A 71 i1 (F.1 72 i1))) (⟨by omega, xa.fp rfl, fun j hj => Or.elim (Classical.em (j = i1)) (fun e => by rw [e]; exact fp_eq.trans (if_pos (by omega)).symm) (fun e => (fp_ne (Or.inr e)).trans (ha j (by omega)))⟩)
end
-- 63.b9b.st.lean.txt
section
theorem lns_y {T : Nat → TT} {l i j : Nat} {s s' : PS} (h : lns T l = some (s, i)) (h0 : (T i).k ≠ 0) (e : lnx T s i = LR.ok s' j) (k : (T j).k = 59) : lns T (l + 1) = some (s', j + 1) := by
  show nxt T (lns T l) = _
  rw [h]
  show (if (T i).k = 0 then none else lnj T (lnx T s i)) = _
  rw [if_neg h0, e]
  show (if (T j).k = 59 then some (s', j + 1) else none) = _
  rw [if_pos k]
theorem stp_0 {T : Nat → TT} {l i : Nat} {s : PS} (h : (T i).k = 0) : stp T l s i = some ((l : Int), 0) := if_pos h
theorem stp_b {T : Nat → TT} {l i j : Nat} {s : PS} {f : Int} (h0 : (T i).k ≠ 0) (e : lnx T s i = LR.bad f j) : stp T l s i = some (-1 - (T j).pl, f) := by
  unfold stp
  rw [if_neg h0, e]
  rfl
theorem stp_s {T : Nat → TT} {l i j : Nat} {s s' : PS} (h0 : (T i).k ≠ 0) (e : lnx T s i = LR.ok s' j) (k : ¬ (T j).k = 59) : stp T l s i = some (-1 - (T j).pl, 1) := by
  unfold stp
  rw [if_neg h0, e]
  show (if (T j).k = 59 then none else some (-1 - (T j).pl, (1 : Int))) = _
  rw [if_neg k]
/-- what is wrong is told by a number that isn't 0 -/
def BZ (x : LR) : Prop := ∀ f j, x = LR.bad f j → f ≠ 0
theorem BZ.b {f : Int} {j : Nat} (h : f ≠ 0) : BZ (LR.bad f j) := fun f' j' e => by
  have e2 := Sum.inr.inj e
  rw [← (Prod.mk.inj e2).1]
  exact h
theorem BZ.o {s : PS} {j : Nat} : BZ (LR.ok s j) := fun f' j' e => by cases e
theorem BZ.num {T : Nat → TT} {j : Nat} {lo hi : Int} {k : Int → LR} (h : ∀ v, BZ (k v)) : BZ (lnum T j lo hi k) := by
  unfold lnum
  split
  · exact BZ.b (by decide)
  · split
    · exact BZ.b (by decide)
    · exact h _
theorem BZ.old {T : Nat → TT} {s : PS} {o j : Nat} {n : Int} {k : Int → LR} (h : ∀ v, BZ (k v)) : BZ (lold T s o n j k) := by
  unfold lold
  split
  · exact BZ.b (by decide)
  · split
    · exact BZ.b (by decide)
    · exact h _
theorem BZ.new {T : Nat → TT} {s : PS} {j : Nat} {k : Int → LR} (h : ∀ v, BZ (k v)) : BZ (lnew T s j k) := by
  unfold lnew
  split
  · exact BZ.b (by decide)
  · split
    · exact BZ.b (by decide)
    · exact h _
theorem BZ.x {T : Nat → TT} {s : PS} {i : Nat} : BZ (lnx T s i) := by
  unfold lnx
  split
  · unfold lnLoad
    split
    · exact BZ.b (by decide)
    · exact BZ.num fun _ => BZ.o
  · split
    · unfold lnGood
      split
      · exact BZ.b (by decide)
      · exact BZ.new fun _ => BZ.o
    · split
      · unfold lnMan
        split
        · exact BZ.b (by decide)
        · exact BZ.new fun _ => BZ.num fun _ => BZ.o
      · split
        · unfold lnMiss
          split
          · exact BZ.b (by decide)
          · refine BZ.old fun _ => BZ.old fun _ => ?_
            split
            · exact BZ.b (by decide)
            · exact BZ.num fun _ => BZ.o
        · split
          · unfold lnAmt
            refine BZ.old fun _ => BZ.num fun _ => ?_
            split
            · exact BZ.b (by decide)
            · exact BZ.num fun _ => BZ.o
          · exact BZ.b (by decide)
theorem LRQ.y {F G : FW} {B : Nat → Int} {n lim : Nat} {z : Int32} {x : LR} (h : LRQ F G B n lim (some (.int z)) x) (hz : ¬ z = 0) : ∃ s j, x = LR.ok s j ∧ RSX F G ∧ RTK G B n lim j ∧ G.1 69 15 = F.1 69 15 ∧ SRF G s := by
  obtain ⟨h0, h⟩ := h
  cases x with
  | inl y => exact ⟨y.1, y.2, rfl, h0, h.2⟩
  | inr y => exact absurd (Value.int.inj (Option.some.inj h.1)) hz
theorem LRQ.n {F G : FW} {B : Nat → Int} {n lim : Nat} {z : Int32} {x : LR} (h : LRQ F G B n lim (some (.int z)) x) (hz : z = 0) : ∃ f j, x = LR.bad f j ∧ RSX F G ∧ (G.1 69 15).toInt = f ∧ (G.1 69 16).toInt = (tok B n lim j).pl := by
  obtain ⟨h0, h⟩ := h
  cases x with
  | inl y =>
    have e := Value.int.inj (Option.some.inj h.1)
    rw [hz] at e
    exact absurd e (by decide)
  | inr y => exact ⟨y.1, y.2, rfl, h0, h.2⟩
/-- what reading a Strait may have changed -/
def SFX (F G : FW) : Prop := FX (fun q => q = 69 ∨ q = 72 ∨ q = 74 ∨ q = 76) F G ∧ (∀ k, k ≠ 0 → k ≠ 2 → k ≠ 3 → k ≠ 4 → k ≠ 5 → k ≠ 11 → k ≠ 12 → k ≠ 13 → k ≠ 14 → k ≠ 15 → k ≠ 16 → k ≠ 18 → k ≠ 19 → k ≠ 20 → G.1 69 k = F.1 69 k) ∧ (∀ k, k ≠ 17 → G.2.2.1 69 k = F.2.2.1 69 k) ∧ ∀ k, k < 14 → G.2.2.1 74 k = F.2.2.1 74 k
theorem SFX.rf {F : FW} : SFX F F := ⟨FX.rf, fun _ _ _ _ _ _ _ _ _ _ _ _ _ _ _ => rfl, fun _ _ => rfl, fun _ _ => rfl⟩
theorem SFX.fp {F G : FW} {k : Nat} {v : Int32} (h : SFX F G) (c : k = 0 ∨ k = 2 ∨ k = 3 ∨ k = 4 ∨ k = 5 ∨ k = 15 ∨ k = 19 ∨ k = 20) : SFX F (fp G 69 k v) := ⟨h.1.fp (Or.inl rfl), fun j a0 a1 a2 a3 a4 a5 a6 a7 a8 a9 b0 b1 b2 b3 => (fp_ne (Or.inr (by omega))).trans (h.2.1 j a0 a1 a2 a3 a4 a5 a6 a7 a8 a9 b0 b1 b2 b3), h.2.2⟩
theorem SFX.ox {F G K : FW} (h : SFX F G) (x : FX (fun q => q = 72 ∨ q = 76) G K) : SFX F K := ⟨h.1.tr (x.wd fun q c => c.elim (fun e => Or.inr (Or.inl e)) (fun e => Or.inr (Or.inr (Or.inr e)))), fun j a0 a1 a2 a3 a4 a5 a6 a7 a8 a9 b0 b1 b2 b3 => (x.1 69 j (by decide)).trans (h.2.1 j a0 a1 a2 a3 a4 a5 a6 a7 a8 a9 b0 b1 b2 b3), fun k c => (x.2.1 69 k (by decide)).trans (h.2.2.1 k c), fun k c => (x.2.1 74 k (by decide)).trans (h.2.2.2 k c)⟩
theorem SFX.sx {F G K : FW} (h : SFX F G) (x : RSX G K) : SFX F K := ⟨h.1.tr x.1, fun j a0 a1 a2 a3 a4 a5 a6 a7 a8 a9 b0 b1 b2 b3 => (x.2.1 j a3 a5 a6 a7 a8 a9 b0 b1 b3).trans (h.2.1 j a0 a1 a2 a3 a4 a5 a6 a7 a8 a9 b0 b1 b2 b3), fun k c => (x.2.2.1 k c).trans (h.2.2.1 k c), fun k c => (x.2.2.2 k c).trans (h.2.2.2 k c)⟩
theorem SFX.G {F G : FW} (h : SFX F G) (g : GW F) : GW G := g.fx h.1
theorem SFX.W {F G : FW} (h : SFX F G) (r : RWF F) : RWF G := fun j hj => (congrArg Int64.toInt (h.1.2.1 75 j (by decide))).trans (r j hj)
theorem SRF.s0 {F : FW} (h72 : ∀ j, j < 120 → F.1 72 j = if j = 2 then 10 else 0) (h20 : F.1 69 20 = 0) (h76 : ∀ j, j < 4 → F.1 76 j = 0) : SRF F s0 := by
  refine ⟨fun i hi => ?_, h20, fun w hw k hk => ?_, fun g hg => ?_, fun g hg => ?_, show (0 : Int) ≤ 0 ∧ (0 : Int) ≤ 6 ∧ (0 : Int) ≤ 0 ∧ (0 : Int) ≤ 8 ∧ (0 : Int) ≤ 0 ∧ (0 : Int) ≤ 20 by decide⟩
  · rw [h72 i hi]
    show _ = (if i = 2 then (10 : Int) else 0)
    by_cases c : i = 2
    · rw [if_pos c, if_pos c]
      rfl
    · rw [if_neg c, if_neg c]
      rfl
  · rw [h76 w hw, xbit_bt (by omega), bt_0]
    rfl
  · exact absurd (show (g : Int) < 0 from hg) (by omega)
  · exact absurd (show (g : Int) < 0 from hg) (by omega)
def STW (F F' : FW) (tn : Nat) (r : Option Value) : Prop := ∃ K, SFX F K ∧ K.1 69 2 = 0 ∧ ∃ l i s, lns (tok (RBF F tn) tn 900) l = some (s, i) ∧
  ((stp (tok (RBF F tn) tn 900) l s i = some ((l : Int), 0) ∧ r = some (.int (Int32.ofNat l)) ∧ SRF K s ∧ K.1 69 15 = 0 ∧ STE K F') ∨
  (∃ f v, stp (tok (RBF F tn) tn 900) l s i = some (-1 - Int32.toInt v, f) ∧ f ≠ 0 ∧ r = some (.int (-1 - v)) ∧ (K.1 69 15).toInt = f ∧ F' = K))
theorem cell2 {C : FW} {j : Nat} (h : C.1 72 j = 0) : (fp C 72 2 10).1 72 j = if j = 2 then 10 else 0 := by
  by_cases c : j = 2
  · rw [if_pos c, c]
    exact fp_eq
  · rw [if_neg c]
    exact (fp_ne (Or.inr c)).trans h
theorem tnS_n {X : TT} {x : Int} (h : ¬ tnS X x = 0) : ¬ X.k = x := fun e => h (if_pos e)
end
-- 63.b9ba.lean.txt
section
set_option maxRecDepth 100000 in
set_option maxHeartbeats 4000000 in
theorem q_strait {F : FW} {tn : Nat} (hG : GW F) (h2 : F.1 69 2 = Int32.ofNat tn) (htn : tn ≤ 940) (hW : RWF F) : Pm Z_X11_strait [.ref 69] F (fun r F' => STW F F' tn r) := by
  refine Pm.of fun N => ?_
  obtain ⟨Q, hQ⟩ : ∃ Q : Option Value → FW → Prop, Q = (fun r F' => STW F F' tn r) := ⟨_, rfl⟩
  rw [← hQ]
  refine (show Pv (ab_T (L_X11_strait Z_X11_taken Z_X11_next Z_X11_line Z_X11_sign)) N 0 [some (.ref 69), none] [] F Q from ?_)
  refine Pv.aload rfl rfl ?_
  refine Pv.lit rfl ?_
  refine Pv.putI rfl rfl ?_
  refine Pv.aload rfl rfl ?_
  refine Pv.lit rfl ?_
  refine Pv.callV (as := [.ref 69, .int 900]) (rest := []) (Q' := (fun r F' => Pv (ab_T (L_X11_strait Z_X11_taken Z_X11_next Z_X11_line Z_X11_sign)) N 12 [some (.ref 69), none] (r.toList ++ []) F' Q)) rfl rfl rfl ?_ (fun r F' h => h)
  refine Pm.of fun N2 => ?_
  obtain ⟨Q1, hQ1⟩ : ∃ Qx : Option Value → FW → Prop, Qx = (fun r F' => Pv (ab_T (L_X11_strait Z_X11_taken Z_X11_next Z_X11_line Z_X11_sign)) N 12 [some (.ref 69), none] (r.toList ++ []) F' Q) := ⟨_, rfl⟩
  rw [← hQ1]
  refine (show Pv (ab_T L_X11_taken) N2 0 [some (.ref 69), some (.int 900)] [] (fp F 69 0 0) Q1 from ?_)
  refine Pv.aload rfl rfl ?_
  refine Pv.aload rfl rfl ?_
  refine Pv.getI (z := Int32.ofNat tn) rfl rfl ((fp_ne (Or.inr (by decide))).trans (h2)) ?_
  refine Pv.putI rfl rfl ?_
  refine Pv.aload rfl rfl ?_
  refine Pv.lit rfl ?_
  refine Pv.putI rfl rfl ?_
  refine Pv.aload rfl rfl ?_
  refine Pv.lit rfl ?_
  refine Pv.putI rfl rfl ?_
  refine Pv.aload rfl rfl ?_
  refine Pv.iload rfl rfl ?_
  refine Pv.putI rfl rfl ?_
  refine Pv.vret rfl ?_
  rw [hQ1]
  refine (show Pv (ab_T (L_X11_strait Z_X11_taken Z_X11_next Z_X11_line Z_X11_sign)) N 12 [some (.ref 69), none] [] (fp (fp (fp (fp (fp F 69 0 0) 69 3 (Int32.ofNat tn)) 69 2 0) 69 4 0) 69 5 900) Q from ?_)
  refine Pv.aload rfl rfl ?_
  refine Pv.lit rfl ?_
  refine Pv.putI rfl rfl ?_
  refine Pv.aload rfl rfl ?_
  refine Pv.lit rfl ?_
  refine Pv.putI rfl rfl ?_
  refine Pv.aload rfl rfl ?_
  refine Pv.lit rfl ?_
  refine Pv.putI rfl rfl ?_
  have sf0 : SFX F (fp (fp (fp (fp (fp (fp (fp (fp F 69 0 0) 69 3 (Int32.ofNat tn)) 69 2 0) 69 4 0) 69 5 900) 69 15 0) 69 19 0) 69 20 0) := (SFX.fp (SFX.fp (SFX.fp (SFX.fp (SFX.fp (SFX.fp (SFX.fp (SFX.fp SFX.rf (Or.inl rfl)) (Or.inr (Or.inr (Or.inl rfl)))) (Or.inr (Or.inl rfl))) (Or.inr (Or.inr (Or.inr (Or.inl rfl))))) (Or.inr (Or.inr (Or.inr (Or.inr (Or.inl rfl)))))) (Or.inr (Or.inr (Or.inr (Or.inr (Or.inr (Or.inl rfl))))))) (Or.inr (Or.inr (Or.inr (Or.inr (Or.inr (Or.inr (Or.inl rfl)))))))) (Or.inr (Or.inr (Or.inr (Or.inr (Or.inr (Or.inr (Or.inr (rfl)))))))))
  have e2 : ((fp (fp (fp (fp (fp (fp (fp (fp F 69 0 0) 69 3 (Int32.ofNat tn)) 69 2 0) 69 4 0) 69 5 900) 69 15 0) 69 19 0) 69 20 0)).1 69 2 = 0 := (fp_ne (Or.inr (by decide))).trans ((fp_ne (Or.inr (by decide))).trans ((fp_ne (Or.inr (by decide))).trans ((fp_ne (Or.inr (by decide))).trans ((fp_ne (Or.inr (by decide))).trans (fp_eq)))))
  have e3 : ((fp (fp (fp (fp (fp (fp (fp (fp F 69 0 0) 69 3 (Int32.ofNat tn)) 69 2 0) 69 4 0) 69 5 900) 69 15 0) 69 19 0) 69 20 0)).1 69 3 = Int32.ofNat tn := (fp_ne (Or.inr (by decide))).trans ((fp_ne (Or.inr (by decide))).trans ((fp_ne (Or.inr (by decide))).trans ((fp_ne (Or.inr (by decide))).trans ((fp_ne (Or.inr (by decide))).trans ((fp_ne (Or.inr (by decide))).trans (fp_eq))))))
  have e4 : ((fp (fp (fp (fp (fp (fp (fp (fp F 69 0 0) 69 3 (Int32.ofNat tn)) 69 2 0) 69 4 0) 69 5 900) 69 15 0) 69 19 0) 69 20 0)).1 69 4 = 0 := (fp_ne (Or.inr (by decide))).trans ((fp_ne (Or.inr (by decide))).trans ((fp_ne (Or.inr (by decide))).trans ((fp_ne (Or.inr (by decide))).trans (fp_eq))))
  have e5 : ((fp (fp (fp (fp (fp (fp (fp (fp F 69 0 0) 69 3 (Int32.ofNat tn)) 69 2 0) 69 4 0) 69 5 900) 69 15 0) 69 19 0) 69 20 0)).1 69 5 = 900 := (fp_ne (Or.inr (by decide))).trans ((fp_ne (Or.inr (by decide))).trans ((fp_ne (Or.inr (by decide))).trans (fp_eq)))
  have e15 : ((fp (fp (fp (fp (fp (fp (fp (fp F 69 0 0) 69 3 (Int32.ofNat tn)) 69 2 0) 69 4 0) 69 5 900) 69 15 0) 69 19 0) 69 20 0)).1 69 15 = 0 := (fp_ne (Or.inr (by decide))).trans ((fp_ne (Or.inr (by decide))).trans (fp_eq))
  have e19 : ((fp (fp (fp (fp (fp (fp (fp (fp F 69 0 0) 69 3 (Int32.ofNat tn)) 69 2 0) 69 4 0) 69 5 900) 69 15 0) 69 19 0) 69 20 0)).1 69 19 = 0 := (fp_ne (Or.inr (by decide))).trans (fp_eq)
  have e20 : ((fp (fp (fp (fp (fp (fp (fp (fp F 69 0 0) 69 3 (Int32.ofNat tn)) 69 2 0) 69 4 0) 69 5 900) 69 15 0) 69 19 0) 69 20 0)).1 69 20 = 0 := fp_eq
  have e70 : ∀ k, ((fp (fp (fp (fp (fp (fp (fp (fp F 69 0 0) 69 3 (Int32.ofNat tn)) 69 2 0) 69 4 0) 69 5 900) 69 15 0) 69 19 0) 69 20 0)).1 70 k = F.1 70 k := fun k => (fp_ne (Or.inl (by decide))).trans ((fp_ne (Or.inl (by decide))).trans ((fp_ne (Or.inl (by decide))).trans ((fp_ne (Or.inl (by decide))).trans ((fp_ne (Or.inl (by decide))).trans ((fp_ne (Or.inl (by decide))).trans ((fp_ne (Or.inl (by decide))).trans (fp_ne (Or.inl (by decide)))))))))
  obtain ⟨B0, hB0⟩ : ∃ B0 : FW, B0 = (fp (fp (fp (fp (fp (fp (fp (fp F 69 0 0) 69 3 (Int32.ofNat tn)) 69 2 0) 69 4 0) 69 5 900) 69 15 0) 69 19 0) 69 20 0) := ⟨_, rfl⟩
  rw [← hB0] at sf0 e2 e3 e4 e5 e15 e19 e20 e70
  rw [← hB0]
  have gB := sf0.G hG
  refine Pv.lit rfl ?_
  refine Pv.istore (lo' := [some (.ref 69), some (.int 0)]) rfl rfl ?_
  refine Pv.lp (ι := Nat × FW) (lof := fun ⟨i1, A⟩ => [some (.ref 69), some (.int (Int32.ofNat i1))]) (Ff := fun ⟨i1, A⟩ => A) (P := fun ⟨i1, A⟩ => (i1 ≤ 4) ∧ (FX (fun q => q = 76) B0 A) ∧ (∀ j, j < i1 → A.1 76 j = 0)) ?_ (0, B0) (⟨Nat.zero_le _, FX.rf, fun j hj => absurd hj (Nat.not_lt_zero j)⟩)
  rintro N3 hN4 ⟨i1, A⟩ hi5 ih6
  refine (show Pv _ _ 29 [some (.ref 69), some (.int (Int32.ofNat i1))] [] A Q from ?_)
  obtain ⟨hi1, xa, ha⟩ := hi5
  have gA := GW.fx gB xa
  refine Pv.iloadS rfl rfl ?_
  refine Pv.lit rfl ?_
  refine Pv.icmp rfl (fun c7 => ?_) (fun c7 => ?_)
  · skip
    replace c7 := (i_le (a := 4) (b := i1) (by omega) (by omega)).mp (of_decide_eq_true c7)
    refine Pv.lit rfl ?_
    refine Pv.istore (lo' := [some (.ref 69), some (.int 0)]) rfl rfl ?_
    refine Pv.lp (ι := Nat × FW) (lof := fun ⟨i2, C⟩ => [some (.ref 69), some (.int (Int32.ofNat i2))]) (Ff := fun ⟨i2, C⟩ => C) (P := fun ⟨i2, C⟩ => (i2 ≤ 120) ∧ (FX (fun q => q = 72) A C) ∧ (∀ j, j < i2 → C.1 72 j = 0)) ?_ (0, A) (⟨Nat.zero_le _, FX.rf, fun j hj => absurd hj (Nat.not_lt_zero j)⟩)
    rintro N8 hN9 ⟨i2, C⟩ hi10 ih11
    refine (show Pv _ _ 49 [some (.ref 69), some (.int (Int32.ofNat i2))] [] C Q from ?_)
    obtain ⟨hi2, xc, hc⟩ := hi10
    have gC := GW.fx gA xc
    refine Pv.iloadS rfl rfl ?_
    refine Pv.lit rfl ?_
    refine Pv.icmp rfl (fun c12 => ?_) (fun c12 => ?_)
    · skip
      replace c12 := (i_le (a := 120) (b := i2) (by omega) (by omega)).mp (of_decide_eq_true c12)
      refine Pv.aload rfl rfl ?_
      refine Pv.getR (v := .ref 72) rfl rfl (GW.at (a := 69) (k := 7) (b := 72) gC (by decide)) ?_
      refine Pv.lit rfl ?_
      refine Pv.lit rfl ?_
      refine Pv.astk (k := 2) (z := 10) rfl (rfl) (rfl) ?_
      have gC2 : GW (fp C 72 2 10) := GW.fx gC ((FX.rf (P := fun q => q = 72)).fp rfl)
      refine Pv.aload rfl rfl ?_
      refine Pv.callV (as := [.ref 69]) (rest := []) rfl rfl rfl (g_next (n := tn) (p := 0) (lim := 900) gC2 ((fp_ne (Or.inl (by decide))).trans ((xc.1 69 3 (by decide)).trans ((xa.1 69 3 (by decide)).trans e3))) ((fp_ne (Or.inl (by decide))).trans ((xc.1 69 4 (by decide)).trans ((xa.1 69 4 (by decide)).trans e4))) ((fp_ne (Or.inl (by decide))).trans ((xc.1 69 5 (by decide)).trans ((xa.1 69 5 (by decide)).trans e5))) htn (Nat.zero_le _) (by decide)) ?_
      rintro _ D ⟨rfl, x1, x2⟩
      have xD : FX (fun q => q = 72 ∨ q = 76) B0 (fp C 72 2 10) := ((xa.wd fun q h => Or.inr h).tr (xc.wd fun q h => Or.inl h)).fp (Or.inl rfl)
      have sfD : SFX F D := (sf0.ox xD).sx (RSX.of (RLX.of x1))
      have gD := sfD.G hG
      have d9 : ∀ k, k ≠ 4 → k ≠ 11 → k ≠ 12 → k ≠ 13 → k ≠ 14 → D.1 69 k = B0.1 69 k := fun k c1 c2 c3 c4 c5 => (x1.2.1 k c1 c2 c3 c4 c5).trans (xD.1 69 k (by decide))
      have ht0 : RTK D (RBF F tn) tn 900 0 := RTK.of0 x1 (fun k => (xD.1 70 k (by decide)).trans (e70 k)) ((fp_ne (Or.inl (by decide))).trans ((xc.1 69 3 (by decide)).trans ((xa.1 69 3 (by decide)).trans e3))) ((fp_ne (Or.inl (by decide))).trans ((xc.1 69 5 (by decide)).trans ((xa.1 69 5 (by decide)).trans e5))) x2 htn (by decide)
      have sr0 : SRF D s0 := SRF.s0 (fun j hj => (x1.1.1 72 j (by decide)).trans (cell2 (hc j (by omega)))) ((d9 20 (by decide) (by decide) (by decide) (by decide) (by decide)).trans e20) (fun j hj => (x1.1.1 76 j (by decide)).trans ((fp_ne (Or.inl (by decide))).trans ((xc.1 76 j (by decide)).trans (ha j (by omega)))))
      refine (show Pv _ _ 80 [some (.ref 69), some (.int (Int32.ofNat i2))] [] D Q from ?_)
      refine Pv.lp (ι := Nat × Nat × PS × FW) (lof := fun ⟨l, i, s, K⟩ => [some (.ref 69), some (.int (Int32.ofNat i2))]) (Ff := fun ⟨l, i, s, K⟩ => K) (P := fun ⟨l, i, s, K⟩ => SFX F K ∧ K.1 69 2 = 0 ∧ K.1 69 15 = 0 ∧ K.1 69 19 = Int32.ofNat l ∧ lns (tok (RBF F tn) tn 900) l = some (s, i) ∧ RTK K (RBF F tn) tn 900 i ∧ SRF K s ∧ RWF K) ?_ (0, 0, s0, D) (⟨sfD, (d9 2 (by decide) (by decide) (by decide) (by decide) (by decide)).trans e2, (d9 15 (by decide) (by decide) (by decide) (by decide) (by decide)).trans e15, (d9 19 (by decide) (by decide) (by decide) (by decide) (by decide)).trans e19, rfl, ht0, sr0, sfD.W hW⟩)
      rintro N13 hN14 ⟨l, i, s, K⟩ hi15 ih16
      refine (show Pv _ _ 80 [some (.ref 69), some (.int (Int32.ofNat i2))] [] K Q from ?_)
      obtain ⟨sf, h2, h15, h19, hl, ht, hs, hR⟩ := hi15
      have gK := sf.G hG
      have bb := hs.b
      unfold PSB at bb
      refine Pv.aloadS rfl rfl ?_
      refine Pv.getI (z := K.1 69 11) rfl rfl (rfl) ?_
      refine Pv.if0 rfl (fun c17 => ?_) (fun c17 => ?_)
      · skip
        replace c17 := of_decide_eq_true c17
        have k0 : ((tok (RBF F tn) tn 900) i).k = 0 := rkk_z0.mp (ht.2.2.2.1.2.2.1.symm.trans (congrArg Int32.toInt c17))
        refine Pv.imp (r_st123 gK _) ?_
        rintro r F' ⟨e, st⟩
        rw [hQ]
        exact ⟨K, sf, h2, l, i, s, hl, Or.inl ⟨stp_0 k0, by rw [e, h19], hs, h15, st⟩⟩
      · skip
        replace c17 := of_decide_eq_false c17
        have k0 := hk0_ht ht c17
        obtain ⟨g, hg⟩ : ∃ g : Nat, s.h 0 = (g : Int) := ⟨(s.h 0).toNat, by omega⟩
        obtain ⟨m, hm⟩ : ∃ m : Nat, s.h 1 = (m : Int) := ⟨(s.h 1).toNat, by omega⟩
        obtain ⟨q, hq⟩ : ∃ q : Nat, s.h 3 = (q : Int) := ⟨(s.h 3).toNat, by omega⟩
        refine Pv.aload rfl rfl ?_
        refine Pv.callV (as := [.ref 69]) (rest := []) rfl rfl rfl (r_line gK ht hs hg hm hR hq) ?_
        rintro r0 K2 hr
        obtain ⟨z, rfl⟩ := LRQ.i hr
        refine (show Pv _ _ 91 [some (.ref 69), some (.int (Int32.ofNat i2))] [.int z] K2 Q from ?_)
        refine Pv.if0 rfl (fun c18 => ?_) (fun c18 => ?_)
        · skip
          replace c18 := of_decide_eq_true c18
          obtain ⟨f, j, ex, rx, f1, f2⟩ := hr.n c18
          have g2 := rx.G gK
          refine Pv.lit rfl ?_
          refine Pv.aload rfl rfl ?_
          refine Pv.getI (z := K2.1 69 16) rfl rfl (rfl) ?_
          refine Pv.bin (z := (-1) - (K2.1 69 16)) rfl (rfl) ?_
          exact Pv.ret rfl (by rw [hQ]; exact ⟨K2, sf.sx rx, (rx.2.1 2 (by decide) (by decide) (by decide) (by decide) (by decide) (by decide) (by decide) (by decide) (by decide)).trans h2, l, i, s, hl, Or.inr ⟨f, K2.1 69 16, by rw [f2]; exact stp_b k0 ex, BZ.x f j ex, rfl, f1, rfl⟩⟩)
        · skip
          replace c18 := of_decide_eq_false c18
          obtain ⟨s', j, ex, rx, t2, z2, hs2⟩ := hr.y c18
          have g2 := rx.G gK
          refine Pv.aload rfl rfl ?_
          refine Pv.lit rfl ?_
          refine Pv.callV (as := [.ref 69, .int 59]) (rest := []) rfl rfl rfl (r_sign g2 t2 (x := 59) rfl) ?_
          rintro _ K3 ⟨rfl, hsp⟩
          have g3 := RLX.G hsp.1 g2
          refine (show Pv _ _ 100 [some (.ref 69), some (.int (Int32.ofNat i2))] [.int (b2i (decide (tnS ((tok (RBF F tn) tn 900) j) 59 = 0)))] K3 Q from ?_)
          refine Pv.if0 rfl (fun c19 => ?_) (fun c19 => ?_)
          · skip
            replace c19 : decide (b2i (decide (tnS ((tok (RBF F tn) tn 900) j) 59 = 0)) = 0) = false := by simpa using c19
            replace c19 := of_decide_eq_false c19
            replace c19 := b2n.mp c19
            refine Pv.aload rfl rfl ?_
            refine Pv.dup rfl ?_
            refine Pv.getI (z := Int32.ofNat l) rfl rfl ((hsp.1.2.1 19 (by decide) (by decide) (by decide) (by decide) (by decide) (by decide) (by decide) (by decide)).trans ((rx.2.1 19 (by decide) (by decide) (by decide) (by decide) (by decide) (by decide) (by decide) (by decide) (by decide)).trans h19)) ?_
            refine Pv.lit rfl ?_
            refine Pv.bin (z := Int32.ofNat (l + 1)) rfl (i_add l 1) ?_
            refine Pv.putI rfl rfl ?_
            refine Pv.goto rfl ?_
            exact ih16 ((l + 1), (j + 1), s', (fp K3 69 19 (Int32.ofNat (l + 1)))) (⟨SFX.fp ((sf.sx rx).sx (RSX.of hsp.1)) (Or.inr (Or.inr (Or.inr (Or.inr (Or.inr (Or.inr (Or.inl rfl))))))), (fp_ne (Or.inr (by decide))).trans ((hsp.1.2.1 2 (by decide) (by decide) (by decide) (by decide) (by decide) (by decide) (by decide) (by decide)).trans ((rx.2.1 2 (by decide) (by decide) (by decide) (by decide) (by decide) (by decide) (by decide) (by decide) (by decide)).trans h2)), (fp_ne (Or.inr (by decide))).trans ((hsp.2.1 (of_decide_eq_true c19)).2.trans (z2.trans h15)), fp_eq, lns_y hl k0 ex (tnS_k (of_decide_eq_true c19)), ((hsp.2.1 (of_decide_eq_true c19)).1).oth (Or.inr (Or.inr ⟨rfl, Or.inr rfl⟩)), (hs2.lx hsp.1).sm (fun k => fp_ne (Or.inl (by decide))) (fp_ne (Or.inr (by decide))) (fun k => fp_ne (Or.inl (by decide))) (fun _ => rfl), fun j hj => (RLX.RW hsp.1 (rx.W hR)) j hj⟩)
          · skip
            replace c19 : decide (b2i (decide (tnS ((tok (RBF F tn) tn 900) j) 59 = 0)) = 0) = true := by simpa using c19
            replace c19 := of_decide_eq_true c19
            replace c19 := b2z.mp c19
            refine Pv.lit rfl ?_
            refine Pv.aload rfl rfl ?_
            refine Pv.getI (z := K3.1 69 16) rfl rfl (rfl) ?_
            refine Pv.bin (z := (-1) - (K3.1 69 16)) rfl (rfl) ?_
            exact Pv.ret rfl (by rw [hQ]; exact ⟨K3, (sf.sx rx).sx (RSX.of hsp.1), (hsp.1.2.1 2 (by decide) (by decide) (by decide) (by decide) (by decide) (by decide) (by decide) (by decide)).trans ((rx.2.1 2 (by decide) (by decide) (by decide) (by decide) (by decide) (by decide) (by decide) (by decide) (by decide)).trans h2), l, i, s, hl, Or.inr ⟨1, K3.1 69 16, by rw [(hsp.2.2 (of_decide_eq_false c19)).2]; exact stp_s k0 ex (tnS_n (of_decide_eq_false c19)), by decide, rfl, congrArg Int32.toInt ((hsp.2.2 (of_decide_eq_false c19)).1.trans (tnS_1 (of_decide_eq_false c19))), rfl⟩⟩)
    · skip
      replace c12 := mt (i_le (a := 120) (b := i2) (by omega) (by omega)).mpr (of_decide_eq_false c12)
      refine Pv.aload rfl rfl ?_
      refine Pv.getR (v := .ref 72) rfl rfl (GW.at (a := 69) (k := 7) (b := 72) gC (by decide)) ?_
      refine Pv.iload rfl rfl ?_
      refine Pv.lit rfl ?_
      refine Pv.astk (k := i2) (z := 0) rfl (i_toNat (by omega)) (rfl) ?_
      refine Pv.iinc (y := Int32.ofNat (i2 + 1)) (lo' := [some (.ref 69), some (.int (Int32.ofNat (i2 + 1)))]) rfl rfl (i_add i2 1) rfl ?_
      refine Pv.goto rfl ?_
      exact ih11 (i2 + 1, (fp C 72 i2 0)) (⟨by omega, xc.fp rfl, fun j hj => Or.elim (Classical.em (j = i2)) (fun e => by rw [e]; exact fp_eq) (fun e => (fp_ne (Or.inr e)).trans (hc j (by omega)))⟩)
  · skip
    replace c7 := mt (i_le (a := 4) (b := i1) (by omega) (by omega)).mpr (of_decide_eq_false c7)
    refine Pv.aload rfl rfl ?_
    refine Pv.getR (v := .ref 76) rfl rfl (GW.at (a := 69) (k := 21) (b := 76) gA (by decide)) ?_
    refine Pv.iload rfl rfl ?_
    refine Pv.lit rfl ?_
    refine Pv.astk (k := i1) (z := 0) rfl (i_toNat (by omega)) (rfl) ?_
    refine Pv.iinc (y := Int32.ofNat (i1 + 1)) (lo' := [some (.ref 69), some (.int (Int32.ofNat (i1 + 1)))]) rfl rfl (i_add i1 1) rfl ?_
    refine Pv.goto rfl ?_
    exact ih6 (i1 + 1, (fp A 76 i1 0)) (⟨by omega, xa.fp rfl, fun j hj => Or.elim (Classical.em (j = i1)) (fun e => by rw [e]; exact fp_eq) (fun e => (fp_ne (Or.inr e)).trans (ha j (by omega)))⟩)
end
-- 63.b9c.sc.lean.txt
section
/-! ===== the class reads a Strait ===== -/
/-- what is being read, as it lies in a Strait at r -/
def SCF (F : FW) (r : Nat) (s : PS) : Prop := O7 F r ∧ ((F.1 r 7).toInt = s.h 2 ∧ (F.1 r 8).toInt = s.h 0 ∧ (F.1 r 9).toInt = s.h 1 ∧ (F.1 r 10).toInt = s.h 3 ∧ F.1 r 11 = (if s.ld = true then 1 else 0) ∧ ∀ i, i < 48 → lb (F.2.2.1 r 12) i = s.tl i) ∧
  ((∀ g : Nat, (g : Int) < s.h 0 → (F.2.2.1 (r + 1) g).toInt = c32 7 (s.nm g) ∧ LW 7 (s.nm g)) ∧ (∀ g : Nat, (g : Int) < s.h 1 → (F.2.2.1 (r + 2) g).toInt = c32 7 (s.nm (6 + g)) ∧ LW 7 (s.nm (6 + g)))) ∧
  ((∀ g : Nat, (g : Int) < s.h 1 → (F.1 (r + 3) g).toInt = s.h (52 + g)) ∧ (∀ i, i < 48 → (F.1 (r + 4) i).toInt = s.h (4 + i)) ∧ (∀ k : Nat, (k : Int) < s.h 3 → (F.1 (r + 5) k).toInt = s.h (60 + k) ∧ (F.1 (r + 6) k).toInt = s.h (80 + k) ∧ (F.1 (r + 7) k).toInt = s.h (100 + k))) ∧ PSB s
section SCFS
variable {F : FW} {r : Nat} {s : PS}
theorem SCF.o (h : SCF F r s) : O7 F r := h.1
theorem SCF.l (h : SCF F r s) : (F.1 r 7).toInt = s.h 2 := h.2.1.1
theorem SCF.n0 (h : SCF F r s) : (F.1 r 8).toInt = s.h 0 := h.2.1.2.1
theorem SCF.n1 (h : SCF F r s) : (F.1 r 9).toInt = s.h 1 := h.2.1.2.2.1
theorem SCF.n3 (h : SCF F r s) : (F.1 r 10).toInt = s.h 3 := h.2.1.2.2.2.1
theorem SCF.ld (h : SCF F r s) : F.1 r 11 = (if s.ld = true then 1 else 0) := h.2.1.2.2.2.2.1
theorem SCF.tl (h : SCF F r s) {i : Nat} (hi : i < 48) : lb (F.2.2.1 r 12) i = s.tl i := h.2.1.2.2.2.2.2 i hi
theorem SCF.gn (h : SCF F r s) {g : Nat} (hg : (g : Int) < s.h 0) : (F.2.2.1 (r + 1) g).toInt = c32 7 (s.nm g) ∧ LW 7 (s.nm g) := h.2.2.1.1 g hg
theorem SCF.mn (h : SCF F r s) {g : Nat} (hg : (g : Int) < s.h 1) : (F.2.2.1 (r + 2) g).toInt = c32 7 (s.nm (6 + g)) ∧ LW 7 (s.nm (6 + g)) := h.2.2.1.2 g hg
theorem SCF.fs (h : SCF F r s) {g : Nat} (hg : (g : Int) < s.h 1) : (F.1 (r + 3) g).toInt = s.h (52 + g) := h.2.2.2.1.1 g hg
theorem SCF.am (h : SCF F r s) {i : Nat} (hi : i < 48) : (F.1 (r + 4) i).toInt = s.h (4 + i) := h.2.2.2.1.2.1 i hi
theorem SCF.ms (h : SCF F r s) {k : Nat} (hk : (k : Int) < s.h 3) : (F.1 (r + 5) k).toInt = s.h (60 + k) ∧ (F.1 (r + 6) k).toInt = s.h (80 + k) ∧ (F.1 (r + 7) k).toInt = s.h (100 + k) := h.2.2.2.1.2.2 k hk
theorem SCF.b (h : SCF F r s) : PSB s := h.2.2.2.2
theorem SCF.at0 (h : SCF F r s) {g : Nat} (e : s.h 0 = (g : Int)) : F.1 r 8 = Int32.ofNat g := by
  have := i_ofv h.n0 (by omega)
  rw [this, e]
  rfl
theorem SCF.at1 (h : SCF F r s) {g : Nat} (e : s.h 1 = (g : Int)) : F.1 r 9 = Int32.ofNat g := by
  have := i_ofv h.n1 (by omega)
  rw [this, e]
  rfl
theorem SCF.at3 (h : SCF F r s) {g : Nat} (e : s.h 3 = (g : Int)) : F.1 r 10 = Int32.ofNat g := by
  have := i_ofv h.n3 (by omega)
  rw [this, e]
  rfl
theorem SCF.sm {G : FW} (h : SCF F r s) (o : ∀ k, G.2.1 r k = F.2.1 r k) (e : ∀ a k, r ≤ a → a ≤ r + 7 → G.1 a k = F.1 a k) (l : ∀ a k, r ≤ a → a ≤ r + 7 → G.2.2.1 a k = F.2.2.1 a k) : SCF G r s :=
  ⟨fun k hk => (o k).trans (h.o k hk), ⟨by rw [e r 7 (by omega) (by omega)]; exact h.l, by rw [e r 8 (by omega) (by omega)]; exact h.n0, by rw [e r 9 (by omega) (by omega)]; exact h.n1, by rw [e r 10 (by omega) (by omega)]; exact h.n3, by rw [e r 11 (by omega) (by omega)]; exact h.ld, fun i hi => by rw [l r 12 (by omega) (by omega)]; exact h.tl hi⟩,
    ⟨fun g hg => by rw [l (r + 1) g (by omega) (by omega)]; exact h.gn hg, fun g hg => by rw [l (r + 2) g (by omega) (by omega)]; exact h.mn hg⟩,
    ⟨fun g hg => by rw [e (r + 3) g (by omega) (by omega)]; exact h.fs hg, fun i hi => by rw [e (r + 4) i (by omega) (by omega)]; exact h.am hi, fun k hk => by rw [e (r + 5) k (by omega) (by omega), e (r + 6) k (by omega) (by omega), e (r + 7) k (by omega) (by omega)]; exact h.ms hk⟩, h.b⟩
theorem SCF.rx {G : FW} (h : SCF F r s) (x : RCX F G) (hr : 40 ≤ r) : SCF G r s := h.sm (fun k => by rw [x.1.2.2.1]) (fun a k h1 h2 => x.1.1 a k (by omega)) (fun a k h1 h2 => x.1.2.1 a k (by omega))
end SCFS
/-- where reading a Strait at r writes -/
def CSX (r : Nat) (F G : FW) : Prop := FX (fun q => q = 3 ∨ (r ≤ q ∧ q ≤ r + 7)) F G ∧ (∀ k, k ≠ 4 → k ≠ 5 → k ≠ 6 → k ≠ 7 → k ≠ 9 → G.1 3 k = F.1 3 k) ∧ ∀ k, k ≠ 8 → G.2.2.1 3 k = F.2.2.1 3 k
theorem CSX.rf {r : Nat} {F : FW} : CSX r F F := ⟨FX.rf, fun _ _ _ _ _ _ => rfl, fun _ _ => rfl⟩
theorem CSX.of {r : Nat} {F G : FW} (x : RCX F G) : CSX r F G := ⟨x.1.wd fun q h => Or.inl h, x.2.1, x.2.2⟩
theorem CSX.tr {r : Nat} {F G K : FW} (a : CSX r F G) (b : CSX r G K) : CSX r F K := ⟨a.1.tr b.1, fun k h1 h2 h3 h4 h5 => (b.2.1 k h1 h2 h3 h4 h5).trans (a.2.1 k h1 h2 h3 h4 h5), fun k h => (b.2.2 k h).trans (a.2.2 k h)⟩
theorem CSX.rx {r : Nat} {F G K : FW} (a : CSX r F G) (x : RCX G K) : CSX r F K := a.tr (CSX.of x)
theorem CSX.p {r a k : Nat} {v : Int32} {F G : FW} (h : CSX r F G) (ha : r ≤ a ∧ a ≤ r + 7) (hr : 40 ≤ r) : CSX r F (fp G a k v) := ⟨h.1.fp (Or.inr ha), fun j h1 h2 h3 h4 h5 => (fp_ne (Or.inl (by omega))).trans (h.2.1 j h1 h2 h3 h4 h5), h.2.2⟩
theorem CSX.pl {r a k : Nat} {v : Int64} {F G : FW} (h : CSX r F G) (ha : r ≤ a ∧ a ≤ r + 7) (hr : 40 ≤ r) : CSX r F (fpl G a k v) := ⟨h.1.fpl (Or.inr ha), h.2.1, fun j c => (fpl_ne (Or.inl (by omega))).trans (h.2.2 j c)⟩
theorem CSX.G {r : Nat} {F G : FW} (h : CSX r F G) (g : GW F) : GW G := g.fx h.1
theorem CSX.TK {r : Nat} {F G : FW} {T : Nat → TT} {m : Nat} (h : CSX r F G) (hr : 40 ≤ r) (t : TKF F T m) : TKF G T m := by
  obtain ⟨h1, h2, h3, h4, h5⟩ := t
  refine ⟨h1, h2, (h.2.1 3 (by decide) (by decide) (by decide) (by decide) (by decide)).trans h3, fun j hj => ?_, h5⟩
  obtain ⟨a, b, c, d, e⟩ := h4 j hj
  exact ⟨by rw [h.1.1 4 j (by omega)]; exact a, by rw [h.1.1 5 j (by omega)]; exact b, fun z => by rw [h.1.2.1 6 j (by omega)]; exact c z, fun z => by rw [h.1.2.1 6 j (by omega)]; exact d z, e⟩
def LCQ (F G : FW) (T : Nat → TT) (m r : Nat) (v : Option Value) (x : LR) : Prop := CSX r F G ∧ match x with
  | .inl y => v = some (.int 1) ∧ G.1 3 4 = Int32.ofNat y.2 ∧ G.1 3 9 = F.1 3 9 ∧ SCF G r y.1 ∧ y.2 < m
  | .inr z => v = some (.int 0) ∧ (G.1 3 9).toInt = z.1 ∧ CURF G (T z.2)
theorem LCQ.ok {F G : FW} {T : Nat → TT} {m r j : Nat} {x : LR} {s : PS} (e : x = LR.ok s j) (h : CSX r F G) (h4 : G.1 3 4 = Int32.ofNat j) (h9 : G.1 3 9 = F.1 3 9) (hs : SCF G r s) (hj : j < m) : LCQ F G T m r (some (.int 1)) x := by
  rw [e]
  exact ⟨h, rfl, h4, h9, hs, hj⟩
theorem LCQ.bad {F G : FW} {T : Nat → TT} {m r j : Nat} {x : LR} {f : Int} (e : x = LR.bad f j) (h : CSX r F G) (h9 : (G.1 3 9).toInt = f) (hc : CURF G (T j)) : LCQ F G T m r (some (.int 0)) x := by
  rw [e]
  exact ⟨h, rfl, h9, hc⟩
theorem LCQ.fl {F G : FW} {T : Nat → TT} {m r j : Nat} {x : LR} {c : Int32} (e : x = LR.bad c.toInt j) (h : CSX r F G) (hc : CURF G (T j)) : LCQ F (fp G 3 9 c) T m r (some (.int 0)) x := LCQ.bad e (h.rx (RCX.rf.fp (Or.inr (Or.inr (Or.inr (Or.inr rfl)))))) (congrArg Int32.toInt fp_eq) hc.p9
theorem CURF.oth {F : FW} {X : TT} {a k : Nat} {v : Int32} (h : CURF F X) (ha : a ≠ 3) : CURF (fp F a k v) X := ⟨(congrArg Int32.toInt (fp_ne (Or.inl (fun e => ha e.symm)))).trans h.1, (congrArg Int32.toInt (fp_ne (Or.inl (fun e => ha e.symm)))).trans h.2.1, fun e => (congrArg Int32.toInt (fp_ne (Or.inl (fun e => ha e.symm)))).trans (h.2.2.1 e), h.2.2.2⟩
theorem SCF.load {F : FW} {r : Nat} {s : PS} {v : Int32} {a : Int} (h : SCF F r s) (hv : v.toInt = a) : SCF (fp (fp F r 11 1) r 7 v) r (ups s.h 2 a, s.nm, true, s.tl) := by
  have e : ∀ j, j ≠ 2 → ups s.h 2 a j = s.h j := fun j hj => ups_ne hj
  have q : ∀ b k, (b ≠ r ∨ (k ≠ 7 ∧ k ≠ 11)) → (fp (fp F r 11 1) r 7 v).1 b k = F.1 b k := fun b k c => (fp_ne (by omega)).trans (fp_ne (by omega))
  refine ⟨h.o, ⟨?_, ?_, ?_, ?_, ?_, fun i hi => h.tl hi⟩, ⟨fun g hg => h.gn (by have : (g : Int) < ups s.h 2 a 0 := hg; rwa [e 0 (by decide)] at this), fun g hg => h.mn (by have : (g : Int) < ups s.h 2 a 1 := hg; rwa [e 1 (by decide)] at this)⟩, ⟨fun g hg => ?_, fun i hi => ?_, fun k hk => ?_⟩, ?_⟩
  · show _ = ups s.h 2 a 2
    rw [ups_eq, fp_eq]
    exact hv
  · show _ = ups s.h 2 a 0
    rw [e 0 (by decide), q r 8 (Or.inr (by decide))]
    exact h.n0
  · show _ = ups s.h 2 a 1
    rw [e 1 (by decide), q r 9 (Or.inr (by decide))]
    exact h.n1
  · show _ = ups s.h 2 a 3
    rw [e 3 (by decide), q r 10 (Or.inr (by decide))]
    exact h.n3
  · show _ = (1 : Int32)
    rw [fp_ne (Or.inr (by decide)), fp_eq]
  · show _ = ups s.h 2 a (52 + g)
    have hg' : (g : Int) < ups s.h 2 a 1 := hg
    rw [e 1 (by decide)] at hg'
    rw [e _ (by omega), q _ _ (Or.inl (by omega))]
    exact h.fs hg'
  · show _ = ups s.h 2 a (4 + i)
    rw [e _ (by omega), q _ _ (Or.inl (by omega))]
    exact h.am hi
  · have hk' : (k : Int) < ups s.h 2 a 3 := hk
    rw [e 3 (by decide)] at hk'
    show _ = ups s.h 2 a (60 + k) ∧ _ = ups s.h 2 a (80 + k) ∧ _ = ups s.h 2 a (100 + k)
    rw [e _ (by omega), e _ (by omega), e _ (by omega), q _ _ (Or.inl (by omega)), q _ _ (Or.inl (by omega)), q _ _ (Or.inl (by omega))]
    exact h.ms hk'
  · show 0 ≤ ups s.h 2 a 0 ∧ ups s.h 2 a 0 ≤ 6 ∧ 0 ≤ ups s.h 2 a 1 ∧ ups s.h 2 a 1 ≤ 8 ∧ 0 ≤ ups s.h 2 a 3 ∧ ups s.h 2 a 3 ≤ 20
    rw [e 0 (by decide), e 1 (by decide), e 3 (by decide)]
    exact h.b
theorem SCF.good {F : FW} {r g : Nat} {s : PS} {w : Int64} {v : Int} (h : SCF F r s) (hg : s.h 0 = (g : Int)) (h6 : g < 6) (hw : w.toInt = c32 7 v) (hv : LW 7 v) : SCF (fp (fpl F (r + 1) g w) r 8 (Int32.ofNat (g + 1))) r (ups s.h 0 (s.h 0 + 1), ups s.nm (s.h 0).toNat v, s.ld, s.tl) := by
  have e : ∀ j, j ≠ 0 → ups s.h 0 (s.h 0 + 1) j = s.h j := fun j hj => ups_ne hj
  have q : ∀ b k, (b ≠ r ∨ k ≠ 8) → (fp (fpl F (r + 1) g w) r 8 (Int32.ofNat (g + 1))).1 b k = F.1 b k := fun b k c => fp_ne c
  have b := h.b
  unfold PSB at b
  have tg : (s.h 0).toNat = g := by omega
  refine ⟨h.o, ⟨?_, ?_, ?_, ?_, ?_, fun i hi => (congrArg (fun z => lb z i) (fpl_ne (Or.inl (by omega)))).trans (h.tl hi)⟩, ⟨fun j hj => ?_, fun j hj => ?_⟩, ⟨fun j hj => ?_, fun i hi => ?_, fun k hk => ?_⟩, ?_⟩
  · show _ = ups s.h 0 (s.h 0 + 1) 2
    rw [e 2 (by decide), q r 7 (Or.inr (by decide))]
    exact h.l
  · show _ = ups s.h 0 (s.h 0 + 1) 0
    rw [ups_eq, fp_eq, i_toInt (by omega)]
    omega
  · show _ = ups s.h 0 (s.h 0 + 1) 1
    rw [e 1 (by decide), q r 9 (Or.inr (by decide))]
    exact h.n1
  · show _ = ups s.h 0 (s.h 0 + 1) 3
    rw [e 3 (by decide), q r 10 (Or.inr (by decide))]
    exact h.n3
  · exact (q r 11 (Or.inr (by decide))).trans h.ld
  · have hj' : (j : Int) < ups s.h 0 (s.h 0 + 1) 0 := hj
    rw [ups_eq] at hj'
    show ((fpl F (r + 1) g w).2.2.1 (r + 1) j).toInt = c32 7 (ups s.nm (s.h 0).toNat v j) ∧ LW 7 (ups s.nm (s.h 0).toNat v j)
    rw [tg]
    by_cases c : j = g
    · rw [c, ups_eq, fpl_eq]
      exact ⟨hw, hv⟩
    · rw [ups_ne c, fpl_ne (Or.inr c)]
      exact h.gn (by omega)
  · have hj' : (j : Int) < ups s.h 0 (s.h 0 + 1) 1 := hj
    rw [e 1 (by decide)] at hj'
    show ((fpl F (r + 1) g w).2.2.1 (r + 2) j).toInt = c32 7 (ups s.nm (s.h 0).toNat v (6 + j)) ∧ LW 7 (ups s.nm (s.h 0).toNat v (6 + j))
    rw [ups_ne (by omega), fpl_ne (Or.inl (by omega))]
    exact h.mn hj'
  · have hj' : (j : Int) < ups s.h 0 (s.h 0 + 1) 1 := hj
    rw [e 1 (by decide)] at hj'
    show _ = ups s.h 0 (s.h 0 + 1) (52 + j)
    rw [e _ (by omega), q _ _ (Or.inl (by omega))]
    exact h.fs hj'
  · show _ = ups s.h 0 (s.h 0 + 1) (4 + i)
    rw [e _ (by omega), q _ _ (Or.inl (by omega))]
    exact h.am hi
  · have hk' : (k : Int) < ups s.h 0 (s.h 0 + 1) 3 := hk
    rw [e 3 (by decide)] at hk'
    show _ = ups s.h 0 (s.h 0 + 1) (60 + k) ∧ _ = ups s.h 0 (s.h 0 + 1) (80 + k) ∧ _ = ups s.h 0 (s.h 0 + 1) (100 + k)
    rw [e _ (by omega), e _ (by omega), e _ (by omega), q _ _ (Or.inl (by omega)), q _ _ (Or.inl (by omega)), q _ _ (Or.inl (by omega))]
    exact h.ms hk'
  · show 0 ≤ ups s.h 0 (s.h 0 + 1) 0 ∧ ups s.h 0 (s.h 0 + 1) 0 ≤ 6 ∧ 0 ≤ ups s.h 0 (s.h 0 + 1) 1 ∧ ups s.h 0 (s.h 0 + 1) 1 ≤ 8 ∧ 0 ≤ ups s.h 0 (s.h 0 + 1) 3 ∧ ups s.h 0 (s.h 0 + 1) 3 ≤ 20
    rw [ups_eq, e 1 (by decide), e 3 (by decide)]
    omega
theorem SCF.man {F : FW} {r m : Nat} {s : PS} {w : Int64} {v a : Int} {d : Int32} (h : SCF F r s) (hm : s.h 1 = (m : Int)) (h8 : m < 8) (hw : w.toInt = c32 7 v) (hv : LW 7 v) (hd : d.toInt = a) : SCF (fp (fp (fpl F (r + 2) m w) (r + 3) m d) r 9 (Int32.ofNat (m + 1))) r (ups (ups s.h (52 + m) a) 1 (s.h 1 + 1), ups s.nm (6 + m) v, s.ld, s.tl) := by
  have e : ∀ j, j ≠ 1 → j ≠ 52 + m → ups (ups s.h (52 + m) a) 1 (s.h 1 + 1) j = s.h j := fun j h1 h2 => (ups_ne h1).trans (ups_ne h2)
  have q : ∀ b k, (b ≠ r ∨ k ≠ 9) → (b ≠ r + 3 ∨ k ≠ m) → (fp (fp (fpl F (r + 2) m w) (r + 3) m d) r 9 (Int32.ofNat (m + 1))).1 b k = F.1 b k := fun b k c1 c2 => (fp_ne c1).trans (fp_ne c2)
  have b := h.b
  unfold PSB at b
  refine ⟨h.o, ⟨?_, ?_, ?_, ?_, ?_, fun i hi => (congrArg (fun z => lb z i) (fpl_ne (Or.inl (by omega)))).trans (h.tl hi)⟩, ⟨fun j hj => ?_, fun j hj => ?_⟩, ⟨fun j hj => ?_, fun i hi => ?_, fun k hk => ?_⟩, ?_⟩
  · show _ = ups (ups s.h (52 + m) a) 1 (s.h 1 + 1) 2
    rw [e 2 (by decide) (by omega), q r 7 (Or.inr (by decide)) (Or.inl (by omega))]
    exact h.l
  · show _ = ups (ups s.h (52 + m) a) 1 (s.h 1 + 1) 0
    rw [e 0 (by decide) (by omega), q r 8 (Or.inr (by decide)) (Or.inl (by omega))]
    exact h.n0
  · show _ = ups (ups s.h (52 + m) a) 1 (s.h 1 + 1) 1
    rw [ups_eq, fp_eq, i_toInt (by omega)]
    omega
  · show _ = ups (ups s.h (52 + m) a) 1 (s.h 1 + 1) 3
    rw [e 3 (by decide) (by omega), q r 10 (Or.inr (by decide)) (Or.inl (by omega))]
    exact h.n3
  · exact (q r 11 (Or.inr (by decide)) (Or.inl (by omega))).trans h.ld
  · have hj' : (j : Int) < ups (ups s.h (52 + m) a) 1 (s.h 1 + 1) 0 := hj
    rw [e 0 (by decide) (by omega)] at hj'
    show ((fpl F (r + 2) m w).2.2.1 (r + 1) j).toInt = c32 7 (ups s.nm (6 + m) v j) ∧ LW 7 (ups s.nm (6 + m) v j)
    rw [ups_ne (by omega), fpl_ne (Or.inl (by omega))]
    exact h.gn hj'
  · have hj' : (j : Int) < ups (ups s.h (52 + m) a) 1 (s.h 1 + 1) 1 := hj
    rw [ups_eq] at hj'
    show ((fpl F (r + 2) m w).2.2.1 (r + 2) j).toInt = c32 7 (ups s.nm (6 + m) v (6 + j)) ∧ LW 7 (ups s.nm (6 + m) v (6 + j))
    by_cases c : j = m
    · rw [c, ups_eq, fpl_eq]
      exact ⟨hw, hv⟩
    · rw [ups_ne (by omega), fpl_ne (Or.inr c)]
      exact h.mn (by omega)
  · have hj' : (j : Int) < ups (ups s.h (52 + m) a) 1 (s.h 1 + 1) 1 := hj
    rw [ups_eq] at hj'
    show _ = ups (ups s.h (52 + m) a) 1 (s.h 1 + 1) (52 + j)
    rw [ups_ne (by omega)]
    by_cases c : j = m
    · rw [c, ups_eq, fp_ne (Or.inl (by omega)), fp_eq]
      exact hd
    · rw [ups_ne (by omega), q _ _ (Or.inl (by omega)) (Or.inr c)]
      exact h.fs (by omega)
  · show _ = ups (ups s.h (52 + m) a) 1 (s.h 1 + 1) (4 + i)
    rw [e _ (by omega) (by omega), q _ _ (Or.inl (by omega)) (Or.inl (by omega))]
    exact h.am hi
  · have hk' : (k : Int) < ups (ups s.h (52 + m) a) 1 (s.h 1 + 1) 3 := hk
    rw [e 3 (by decide) (by omega)] at hk'
    show _ = ups (ups s.h (52 + m) a) 1 (s.h 1 + 1) (60 + k) ∧ _ = ups (ups s.h (52 + m) a) 1 (s.h 1 + 1) (80 + k) ∧ _ = ups (ups s.h (52 + m) a) 1 (s.h 1 + 1) (100 + k)
    rw [e _ (by omega) (by omega), e _ (by omega) (by omega), e _ (by omega) (by omega), q _ _ (Or.inl (by omega)) (Or.inl (by omega)), q _ _ (Or.inl (by omega)) (Or.inl (by omega)), q _ _ (Or.inl (by omega)) (Or.inl (by omega))]
    exact h.ms hk'
  · show 0 ≤ ups (ups s.h (52 + m) a) 1 (s.h 1 + 1) 0 ∧ ups (ups s.h (52 + m) a) 1 (s.h 1 + 1) 0 ≤ 6 ∧ 0 ≤ ups (ups s.h (52 + m) a) 1 (s.h 1 + 1) 1 ∧ ups (ups s.h (52 + m) a) 1 (s.h 1 + 1) 1 ≤ 8 ∧ 0 ≤ ups (ups s.h (52 + m) a) 1 (s.h 1 + 1) 3 ∧ ups (ups s.h (52 + m) a) 1 (s.h 1 + 1) 3 ≤ 20
    rw [ups_eq, e 0 (by decide) (by omega), e 3 (by decide) (by omega)]
    omega
end
-- 63.b9d.sc.lean.txt
section
theorem SCF.miss {F : FW} {r q w1 w2 : Nat} {s : PS} {a : Int} {d : Int32} (h : SCF F r s) (hq : s.h 3 = (q : Int)) (h20 : q < 20) (b1 : w1 < 8) (b2 : w2 < 8) (hd : d.toInt = a) : SCF (fp (fp (fp (fp F (r + 5) q (Int32.ofNat w1)) (r + 6) q (Int32.ofNat w2)) (r + 7) q d) r 10 (Int32.ofNat (q + 1))) r (ups (ups (ups (ups s.h (60 + q) (w1 : Int)) (80 + q) (w2 : Int)) (100 + q) a) 3 (s.h 3 + 1), s.2) := by
  obtain ⟨H, hH⟩ : ∃ H : Nat → Int, H = ups (ups (ups (ups s.h (60 + q) (w1 : Int)) (80 + q) (w2 : Int)) (100 + q) a) 3 (s.h 3 + 1) := ⟨_, rfl⟩
  rw [← hH]
  have e : ∀ j, j ≠ 3 → j ≠ 60 + q → j ≠ 80 + q → j ≠ 100 + q → H j = s.h j := fun j h1 h2 h3 h4 => by
    rw [hH, ups_ne h1, ups_ne h4, ups_ne h3, ups_ne h2]
  have e3 : H 3 = s.h 3 + 1 := by rw [hH, ups_eq]
  have e6 : H (60 + q) = (w1 : Int) := by rw [hH, ups_ne (by omega), ups_ne (by omega), ups_ne (by omega), ups_eq]
  have e8 : H (80 + q) = (w2 : Int) := by rw [hH, ups_ne (by omega), ups_ne (by omega), ups_eq]
  have e10 : H (100 + q) = a := by rw [hH, ups_ne (by omega), ups_eq]
  have p : ∀ b k, (b ≠ r ∨ k ≠ 10) → (b ≠ r + 5 ∧ b ≠ r + 6 ∧ b ≠ r + 7 ∨ k ≠ q) → (fp (fp (fp (fp F (r + 5) q (Int32.ofNat w1)) (r + 6) q (Int32.ofNat w2)) (r + 7) q d) r 10 (Int32.ofNat (q + 1))).1 b k = F.1 b k := fun b k c1 c2 => (fp_ne c1).trans ((fp_ne (by omega)).trans ((fp_ne (by omega)).trans (fp_ne (by omega))))
  have b := h.b
  unfold PSB at b
  refine ⟨h.o, ⟨?_, ?_, ?_, ?_, ?_, fun i hi => h.tl hi⟩, ⟨fun j hj => h.gn (by have : (j : Int) < H 0 := hj; rwa [e 0 (by decide) (by omega) (by omega) (by omega)] at this), fun j hj => h.mn (by have : (j : Int) < H 1 := hj; rwa [e 1 (by decide) (by omega) (by omega) (by omega)] at this)⟩, ⟨fun j hj => ?_, fun i hi => ?_, fun k hk => ?_⟩, ?_⟩
  · show _ = H 2
    rw [e 2 (by decide) (by omega) (by omega) (by omega), p r 7 (Or.inr (by decide)) (Or.inl (by omega))]
    exact h.l
  · show _ = H 0
    rw [e 0 (by decide) (by omega) (by omega) (by omega), p r 8 (Or.inr (by decide)) (Or.inl (by omega))]
    exact h.n0
  · show _ = H 1
    rw [e 1 (by decide) (by omega) (by omega) (by omega), p r 9 (Or.inr (by decide)) (Or.inl (by omega))]
    exact h.n1
  · show _ = H 3
    rw [e3, fp_eq, i_toInt (by omega)]
    omega
  · exact (p r 11 (Or.inr (by decide)) (Or.inl (by omega))).trans h.ld
  · show _ = H (52 + j)
    have hj' : (j : Int) < H 1 := hj
    rw [e 1 (by decide) (by omega) (by omega) (by omega)] at hj'
    rw [e _ (by omega) (by omega) (by omega) (by omega), p _ _ (Or.inl (by omega)) (Or.inl (by omega))]
    exact h.fs hj'
  · show _ = H (4 + i)
    rw [e _ (by omega) (by omega) (by omega) (by omega), p _ _ (Or.inl (by omega)) (Or.inl (by omega))]
    exact h.am hi
  · show _ = H (60 + k) ∧ _ = H (80 + k) ∧ _ = H (100 + k)
    have hk' : (k : Int) < H 3 := hk
    rw [e3] at hk'
    by_cases c : k = q
    · rw [c, e6, e8, e10]
      refine ⟨?_, ?_, ?_⟩
      · rw [fp_ne (Or.inl (by omega)), fp_ne (Or.inl (by omega)), fp_ne (Or.inl (by omega)), fp_eq]
        exact i_toInt (by omega)
      · rw [fp_ne (Or.inl (by omega)), fp_ne (Or.inl (by omega)), fp_eq]
        exact i_toInt (by omega)
      · rw [fp_ne (Or.inl (by omega)), fp_eq]
        exact hd
    · rw [e _ (by omega) (by omega) (by omega) (by omega), e _ (by omega) (by omega) (by omega) (by omega), e _ (by omega) (by omega) (by omega) (by omega), p _ _ (Or.inl (by omega)) (Or.inr c), p _ _ (Or.inl (by omega)) (Or.inr c), p _ _ (Or.inl (by omega)) (Or.inr c)]
      exact h.ms (by omega)
  · show 0 ≤ H 0 ∧ H 0 ≤ 6 ∧ 0 ≤ H 1 ∧ H 1 ≤ 8 ∧ 0 ≤ H 3 ∧ H 3 ≤ 20
    rw [e3, e 0 (by decide) (by omega) (by omega) (by omega), e 1 (by decide) (by omega) (by omega) (by omega)]
    omega
theorem SCF.amt {F : FW} {r x : Nat} {s : PS} {a : Int} {v : Int32} {A : Int64} (h : SCF F r s) (hx : x < 48) (hA : ∀ i, i < 48 → lb A i = (lb (F.2.2.1 r 12) i || decide (i = x))) (hv : v.toInt = a) : SCF (fp (fpl F r 12 A) (r + 4) x v) r (ups s.h (4 + x) a, s.nm, s.ld, ups s.tl x true) := by
  obtain ⟨H, hH⟩ : ∃ H : Nat → Int, H = ups s.h (4 + x) a := ⟨_, rfl⟩
  rw [← hH]
  have e : ∀ j, j ≠ 4 + x → H j = s.h j := fun j h1 => by rw [hH, ups_ne h1]
  have p : ∀ b k, (b ≠ r + 4 ∨ k ≠ x) → (fp (fpl F r 12 A) (r + 4) x v).1 b k = F.1 b k := fun b k c => fp_ne c
  refine ⟨h.o, ⟨?_, ?_, ?_, ?_, ?_, fun i hi => ?_⟩, ⟨fun j hj => ?_, fun j hj => ?_⟩, ⟨fun j hj => ?_, fun i hi => ?_, fun k hk => ?_⟩, ?_⟩
  · show _ = H 2
    rw [e 2 (by omega), p r 7 (Or.inl (by omega))]
    exact h.l
  · show _ = H 0
    rw [e 0 (by omega), p r 8 (Or.inl (by omega))]
    exact h.n0
  · show _ = H 1
    rw [e 1 (by omega), p r 9 (Or.inl (by omega))]
    exact h.n1
  · show _ = H 3
    rw [e 3 (by omega), p r 10 (Or.inl (by omega))]
    exact h.n3
  · exact (p r 11 (Or.inl (by omega))).trans h.ld
  · show lb ((fpl F r 12 A).2.2.1 r 12) i = ups s.tl x true i
    rw [fpl_eq, hA i hi, h.tl hi]
    by_cases c : i = x
    · rw [c, ups_eq, decide_eq_true rfl, Bool.or_true]
    · rw [ups_ne c, decide_eq_false c, Bool.or_false]
  · have hj' : (j : Int) < H 0 := hj
    rw [e 0 (by omega)] at hj'
    show ((fpl F r 12 A).2.2.1 (r + 1) j).toInt = _ ∧ _
    rw [fpl_ne (Or.inl (by omega))]
    exact h.gn hj'
  · have hj' : (j : Int) < H 1 := hj
    rw [e 1 (by omega)] at hj'
    show ((fpl F r 12 A).2.2.1 (r + 2) j).toInt = _ ∧ _
    rw [fpl_ne (Or.inl (by omega))]
    exact h.mn hj'
  · show _ = H (52 + j)
    have hj' : (j : Int) < H 1 := hj
    rw [e 1 (by omega)] at hj'
    have b := h.b
    unfold PSB at b
    rw [e _ (by omega), p _ _ (Or.inl (by omega))]
    exact h.fs hj'
  · show _ = H (4 + i)
    by_cases c : i = x
    · rw [c, hH, ups_eq, fp_eq]
      exact hv
    · rw [e _ (by omega), p _ _ (Or.inr c)]
      exact h.am hi
  · show _ = H (60 + k) ∧ _ = H (80 + k) ∧ _ = H (100 + k)
    have hk' : (k : Int) < H 3 := hk
    rw [e 3 (by omega)] at hk'
    rw [e _ (by omega), e _ (by omega), e _ (by omega), p _ _ (Or.inl (by omega)), p _ _ (Or.inl (by omega)), p _ _ (Or.inl (by omega))]
    exact h.ms hk'
  · show 0 ≤ H 0 ∧ H 0 ≤ 6 ∧ 0 ≤ H 1 ∧ H 1 ≤ 8 ∧ 0 ≤ H 3 ∧ H 3 ≤ 20
    rw [e 0 (by omega), e 1 (by omega), e 3 (by omega)]
    exact h.b
theorem SCF.s0 {F : FW} {r : Nat} (o : O7 F r) (h7 : F.1 r 7 = 10) (h8 : F.1 r 8 = 0) (h9 : F.1 r 9 = 0) (h10 : F.1 r 10 = 0) (h11 : F.1 r 11 = 0) (h12 : F.2.2.1 r 12 = 0) (ha : ∀ i, i < 48 → F.1 (r + 4) i = 0) : SCF F r s0 := by
  refine ⟨o, ⟨by rw [h7]; rfl, by rw [h8]; rfl, by rw [h9]; rfl, by rw [h10]; rfl, h11, fun i hi => ?_⟩, ⟨fun g hg => absurd (show (g : Int) < 0 from hg) (by omega), fun g hg => absurd (show (g : Int) < 0 from hg) (by omega)⟩, ⟨fun g hg => absurd (show (g : Int) < 0 from hg) (by omega), fun i hi => ?_, fun k hk => absurd (show (k : Int) < 0 from hk) (by omega)⟩, show (0 : Int) ≤ 0 ∧ (0 : Int) ≤ 6 ∧ (0 : Int) ≤ 0 ∧ (0 : Int) ≤ 8 ∧ (0 : Int) ≤ 0 ∧ (0 : Int) ≤ 20 by decide⟩
  · rw [h12]
    show lb 0 i = false
    unfold lb
    exact BitVec.getLsbD_zero
  · rw [ha i hi]
    show _ = (if 4 + i = 2 then (10 : Int) else 0)
    rw [if_neg (by omega)]
    rfl
end
-- 63.b9e.sc.lean.txt
section
theorem fsc_c {s : PS} {X : TT} {g m : Nat} (hg : s.h 0 = (g : Int)) (hm : s.h 1 = (m : Int)) (bg : g ≤ 6) (bm : m ≤ 8) (k2 : X.k = 2) : fsc s X = (if oN (m_fst (gP s.nm X.v) g) = -1 ∧ oN (m_fst (mP s.nm X.v) m) = -1 then 0 else 3) := by
  unfold fsc
  rw [if_pos k2, hg, hm, ← fnd_oN (nm := s.nm) (o := 0) (v := X.v) (by omega), ← fnd_oN (nm := s.nm) (o := 6) (v := X.v) (by omega), fP_0, fP_6]
  have z : ∀ {P : Nat → Bool} {n : Nat}, n ≤ 8 → (0 ≤ (oN (m_fst P n)).toInt ↔ ¬ oN (m_fst P n) = -1) := fun {P n} hn => by
    refine ⟨fun h e => ?_, fun h => ?_⟩
    · rw [e] at h
      exact absurd h (by decide)
    · have q := mt (oN_neg (P := P) hn).mp h
      have q2 := mt Int32.lt_iff_toInt_lt.mpr q
      have z0 : (0 : Int32).toInt = 0 := rfl
      omega
  have z1 := z (P := gP s.nm X.v) (n := g) (by omega)
  have z2 := z (P := mP s.nm X.v) (n := m) (by omega)
  by_cases c1 : oN (m_fst (gP s.nm X.v) g) = -1
  · by_cases c2 : oN (m_fst (mP s.nm X.v) m) = -1
    · rw [if_neg (fun h => h.elim (fun e => z1.mp e c1) (fun e => z2.mp e c2)), if_pos ⟨c1, c2⟩]
    · rw [if_pos (Or.inr (z2.mpr c2)), if_neg (fun h => c2 h.2)]
  · rw [if_pos (Or.inl (z1.mpr c1)), if_neg (fun h => c1 h.1)]
/-- the number of a name that stands, else -1 -/
def tmz (nm : Nat → Int) (o q : Nat) (X : TT) : Int32 := if X.k = 2 then oN (m_fst (fP nm o X.v) q) else -1
theorem tmz_n {nm : Nat → Int} {o q : Nat} {X : TT} (hq : q ≤ 8) : tmz nm o q X = -1 ↔ ¬ lkc nm o q X = 0 := by
  unfold tmz lkc
  by_cases c : X.k = 2
  · rw [if_pos c, if_pos c]
    by_cases d : oN (m_fst (fP nm o X.v) q) = -1
    · rw [if_pos d]
      exact ⟨fun _ => by decide, fun _ => d⟩
    · rw [if_neg d]
      exact ⟨fun e => absurd e d, fun e => absurd rfl e⟩
  · rw [if_neg c, if_neg c]
    exact ⟨fun _ => by decide, fun _ => rfl⟩
theorem tmz_y {nm : Nat → Int} {o q w : Nat} {X : TT} (k2 : X.k = 2) (h : m_fst (fP nm o X.v) q = some w) : tmz nm o q X = Int32.ofNat w := by
  unfold tmz
  rw [if_pos k2, h]
  rfl
theorem tnW_1 {X : TT} (h : ¬ tnW X = 0) : tnW X = 1 ∧ ¬ X.k = 2 := by
  unfold tnW at h ⊢
  by_cases c : X.k = 2
  · rw [if_pos c] at h
    exact absurd rfl h
  · rw [if_neg c]
    exact ⟨rfl, c⟩
theorem SCF.w {F : FW} {X : TT} (h : CURF F X) (k2 : X.k = 2) : (F.2.2.1 3 8).toInt = c32 7 X.v := h.2.2.2 k2
end
-- 63.b9f.lean.txt
section
set_option maxRecDepth 100000 in
set_option maxHeartbeats 4000000 in
theorem c_gn2 {F : FW} {r : Nat} {s : PS} {g m : Nat} (hs : SCF F r s) (hg : s.h 0 = (g : Int)) (hm : s.h 1 = (m : Int)) {w : Int64} {v : Int} (hw : w.toInt = c32 7 v) (hv : LW 7 v) : Pm Z_X7_goodNamed [.ref r, .long w] F (fun r F' => r = some (.int (oN (m_fst (gP s.nm v) g))) ∧ F' = F) := by
  refine Pm.of fun N => ?_
  obtain ⟨Q, hQ⟩ : ∃ Q : Option Value → FW → Prop, Q = (fun r F' => r = some (.int (oN (m_fst (gP s.nm v) g))) ∧ F' = F) := ⟨_, rfl⟩
  rw [← hQ]
  have bb := hs.b
  unfold PSB at bb
  have bg : g ≤ 6 := by omega
  have bm : m ≤ 8 := by omega
  refine (show Pv (ab_T L_X7_goodNamed) N 0 [some (.ref r), some (.long w), none, none] [] F Q from ?_)
  refine Pv.lit rfl ?_
  refine Pv.istore (lo' := [some (.ref r), some (.long w), none, some (.int 0)]) rfl rfl ?_
  refine Pv.lp (ι := Nat) (lof := fun k => [some (.ref r), some (.long w), none, some (.int (Int32.ofNat k))]) (Ff := fun k => F) (P := fun k => k ≤ g ∧ m_fst (gP s.nm v) k = none) ?_ 0 (⟨Nat.zero_le _, rfl⟩)
  rintro N1 hN2 k hi3 ih4
  refine (show Pv _ _ 2 [some (.ref r), some (.long w), none, some (.int (Int32.ofNat k))] [] F Q from ?_)
  obtain ⟨hk, hb⟩ := hi3
  refine Pv.iloadS rfl rfl ?_
  refine Pv.aload rfl rfl ?_
  refine Pv.getI (z := Int32.ofNat g) rfl rfl (hs.at0 hg) ?_
  refine Pv.icmp rfl (fun c5 => ?_) (fun c5 => ?_)
  · skip
    replace c5 := (i_le (a := g) (b := k) (by omega) (by omega)).mp (of_decide_eq_true c5)
    refine Pv.lit rfl ?_
    exact Pv.ret rfl (by rw [hQ]; exact ⟨by rw [show g = k by omega, hb]; rfl, rfl⟩)
  · skip
    replace c5 := mt (i_le (a := g) (b := k) (by omega) (by omega)).mpr (of_decide_eq_false c5)
    refine Pv.aload rfl rfl ?_
    refine Pv.getR (v := .ref (r + 1)) rfl rfl (hs.o 0 (by decide)) ?_
    refine Pv.iload rfl rfl ?_
    refine Pv.lald (z := F.2.2.1 (r + 1) k) rfl (by rw [i_toNat (by omega)]) ?_
    refine Pv.lload rfl rfl ?_
    refine Pv.lcmp (z := lg_cmp (F.2.2.1 (r + 1) k) w) rfl (rfl) ?_
    refine Pv.if0 rfl (fun c6 => ?_) (fun c6 => ?_)
    · skip
      replace c6 : decide (lg_cmp (F.2.2.1 (r + 1) k) w = 0) = false := by simpa using c6
      replace c6 := of_decide_eq_false c6
      refine Pv.iinc (y := Int32.ofNat (k + 1)) (lo' := [some (.ref r), some (.long w), none, some (.int (Int32.ofNat (k + 1)))]) rfl rfl (i_add k 1) rfl ?_
      refine Pv.goto rfl ?_
      exact ih4 (k + 1) (⟨by omega, m_fst_n hb (decide_eq_false (fun e => c6 (lcmp_0.mpr ((nm_eq (hs.gn (g := k) (by omega)) hw hv).mpr e))))⟩)
    · skip
      replace c6 : decide (lg_cmp (F.2.2.1 (r + 1) k) w = 0) = true := by simpa using c6
      replace c6 := of_decide_eq_true c6
      refine Pv.iload rfl rfl ?_
      exact Pv.ret rfl (by rw [hQ]; exact ⟨by rw [m_fst_e hb (show (gP s.nm v) k = true from decide_eq_true ((nm_eq (hs.gn (g := k) (by omega)) hw hv).mp (lcmp_0.mp c6))) (by omega)]; rfl, rfl⟩)
set_option maxRecDepth 100000 in
set_option maxHeartbeats 4000000 in
theorem c_mn2 {F : FW} {r : Nat} {s : PS} {g m : Nat} (hs : SCF F r s) (hg : s.h 0 = (g : Int)) (hm : s.h 1 = (m : Int)) {w : Int64} {v : Int} (hw : w.toInt = c32 7 v) (hv : LW 7 v) : Pm Z_X7_manNamed [.ref r, .long w] F (fun r F' => r = some (.int (oN (m_fst (mP s.nm v) m))) ∧ F' = F) := by
  refine Pm.of fun N => ?_
  obtain ⟨Q, hQ⟩ : ∃ Q : Option Value → FW → Prop, Q = (fun r F' => r = some (.int (oN (m_fst (mP s.nm v) m))) ∧ F' = F) := ⟨_, rfl⟩
  rw [← hQ]
  have bb := hs.b
  unfold PSB at bb
  have bg : g ≤ 6 := by omega
  have bm : m ≤ 8 := by omega
  refine (show Pv (ab_T L_X7_manNamed) N 0 [some (.ref r), some (.long w), none, none] [] F Q from ?_)
  refine Pv.lit rfl ?_
  refine Pv.istore (lo' := [some (.ref r), some (.long w), none, some (.int 0)]) rfl rfl ?_
  refine Pv.lp (ι := Nat) (lof := fun k => [some (.ref r), some (.long w), none, some (.int (Int32.ofNat k))]) (Ff := fun k => F) (P := fun k => k ≤ m ∧ m_fst (mP s.nm v) k = none) ?_ 0 (⟨Nat.zero_le _, rfl⟩)
  rintro N1 hN2 k hi3 ih4
  refine (show Pv _ _ 2 [some (.ref r), some (.long w), none, some (.int (Int32.ofNat k))] [] F Q from ?_)
  obtain ⟨hk, hb⟩ := hi3
  refine Pv.iloadS rfl rfl ?_
  refine Pv.aload rfl rfl ?_
  refine Pv.getI (z := Int32.ofNat m) rfl rfl (hs.at1 hm) ?_
  refine Pv.icmp rfl (fun c5 => ?_) (fun c5 => ?_)
  · skip
    replace c5 := (i_le (a := m) (b := k) (by omega) (by omega)).mp (of_decide_eq_true c5)
    refine Pv.lit rfl ?_
    exact Pv.ret rfl (by rw [hQ]; exact ⟨by rw [show m = k by omega, hb]; rfl, rfl⟩)
  · skip
    replace c5 := mt (i_le (a := m) (b := k) (by omega) (by omega)).mpr (of_decide_eq_false c5)
    refine Pv.aload rfl rfl ?_
    refine Pv.getR (v := .ref (r + 2)) rfl rfl (hs.o 1 (by decide)) ?_
    refine Pv.iload rfl rfl ?_
    refine Pv.lald (z := F.2.2.1 (r + 2) k) rfl (by rw [i_toNat (by omega)]) ?_
    refine Pv.lload rfl rfl ?_
    refine Pv.lcmp (z := lg_cmp (F.2.2.1 (r + 2) k) w) rfl (rfl) ?_
    refine Pv.if0 rfl (fun c6 => ?_) (fun c6 => ?_)
    · skip
      replace c6 : decide (lg_cmp (F.2.2.1 (r + 2) k) w = 0) = false := by simpa using c6
      replace c6 := of_decide_eq_false c6
      refine Pv.iinc (y := Int32.ofNat (k + 1)) (lo' := [some (.ref r), some (.long w), none, some (.int (Int32.ofNat (k + 1)))]) rfl rfl (i_add k 1) rfl ?_
      refine Pv.goto rfl ?_
      exact ih4 (k + 1) (⟨by omega, m_fst_n hb (decide_eq_false (fun e => c6 (lcmp_0.mpr ((nm_eq (hs.mn (g := k) (by omega)) hw hv).mpr e))))⟩)
    · skip
      replace c6 : decide (lg_cmp (F.2.2.1 (r + 2) k) w = 0) = true := by simpa using c6
      replace c6 := of_decide_eq_true c6
      refine Pv.iload rfl rfl ?_
      exact Pv.ret rfl (by rw [hQ]; exact ⟨by rw [m_fst_e hb (show (mP s.nm v) k = true from decide_eq_true ((nm_eq (hs.mn (g := k) (by omega)) hw hv).mp (lcmp_0.mp c6))) (by omega)]; rfl, rfl⟩)
set_option maxRecDepth 100000 in
set_option maxHeartbeats 4000000 in
theorem c_tnn {F : FW} {K : Nat → TT} {mz i r : Nat} {s : PS} {g m : Nat} (hG : GW F) (hT : TKF F K mz) (h4 : F.1 3 4 = Int32.ofNat i) (hi : i < mz) (hr : 40 ≤ r) (hs : SCF F r s) (hg : s.h 0 = (g : Int)) (hm : s.h 1 = (m : Int)) : Pm Z_X7_takeNewName [.ref r, .ref 3] F (fun r' F' => r' = some (.int (b2i (decide (fsc s (K i) = 0)))) ∧ RDC F F' (K i) i (fsc s (K i))) := by
  refine Pm.of fun N => ?_
  obtain ⟨Q, hQ⟩ : ∃ Q : Option Value → FW → Prop, Q = (fun r' F' => r' = some (.int (b2i (decide (fsc s (K i) = 0)))) ∧ RDC F F' (K i) i (fsc s (K i))) := ⟨_, rfl⟩
  rw [← hQ]
  have bb := hs.b
  unfold PSB at bb
  have bg : g ≤ 6 := by omega
  have bm : m ≤ 8 := by omega
  refine (show Pv (ab_T (L_X7_takeNewName Z_X9_takeName Z_X7_goodNamed Z_X7_manNamed Z_X9_fail)) N 0 [some (.ref r), some (.ref 3), none] [] F Q from ?_)
  refine Pv.aload rfl rfl ?_
  refine Pv.callV (as := [.ref 3]) (rest := []) rfl rfl rfl (c_takeName hG hT h4 hi) ?_
  rintro _ G ⟨rfl, hd⟩
  have gw := RCX.G hd.1 hG
  have sg := hs.rx hd.1 hr
  refine (show Pv _ _ 4 [some (.ref r), some (.ref 3), none] [.int (b2i (decide (tnW (K i) = 0)))] G Q from ?_)
  refine Pv.if0 rfl (fun c1 => ?_) (fun c1 => ?_)
  · skip
    replace c1 : decide (b2i (decide (tnW (K i) = 0)) = 0) = false := by simpa using c1
    replace c1 := of_decide_eq_false c1
    replace c1 := b2n.mp c1
    have h0 : tnW (K i) = 0 := (of_decide_eq_true c1)
    have k2 := tnW_k h0
    have hd0 : RDC F G (K i) i 0 := by have q := hd; rw [h0] at q; exact q
    refine Pv.aload rfl rfl ?_
    refine Pv.aload rfl rfl ?_
    refine Pv.getL (z := G.2.2.1 3 8) rfl rfl (rfl) ?_
    refine Pv.callVI (as := [.ref r, .long (G.2.2.1 3 8)]) (rest := []) (z := oN (m_fst (gP s.nm (K i).v) g)) rfl rfl rfl (c_gn2 sg hg hm (hd0.2.2.1.2.2.2 k2) ((hT.v hi).2 k2)) ?_
    refine Pv.lit rfl ?_
    refine Pv.icmp rfl (fun c2 => ?_) (fun c2 => ?_)
    · skip
      replace c2 : decide (oN (m_fst (gP s.nm (K i).v) g) = (-1)) = false := by simpa using c2
      replace c2 := of_decide_eq_false c2
      refine Pv.lit rfl ?_
      refine Pv.istore (lo' := [some (.ref r), some (.ref 3), some (.int 0)]) rfl rfl ?_
      refine Pv.iload rfl rfl ?_
      refine Pv.if0 rfl (fun c3 => ?_) (fun c3 => ?_)
      · skip
        replace c3 : decide ((0 : Int32) = 0) = false := by simpa using c3
        replace c3 := mt (i_eq (a := 0) (b := 0) (by omega) (by omega)).mpr (of_decide_eq_false c3)
        omega
      · skip
        replace c3 : decide ((0 : Int32) = 0) = true := by simpa using c3
        replace c3 := (i_eq (a := 0) (b := 0) (by omega) (by omega)).mp (of_decide_eq_true c3)
        refine Pv.aload rfl rfl ?_
        refine Pv.lit rfl ?_
        refine Pv.callVI (as := [.ref 3, .int 3]) (rest := []) (z := 0) rfl rfl rfl (c_fail (c := 3)) ?_
        refine Pv.if0 rfl (fun c4 => ?_) (fun c4 => ?_)
        · skip
          replace c4 := (i_eq (a := 0) (b := 0) (by omega) (by omega)).mp (of_decide_eq_true c4)
          refine Pv.lit rfl ?_
          have ef : fsc s (K i) = 3 := (fsc_c hg hm bg bm k2).trans (if_neg (fun z => c2 z.1))
          exact Pv.zret rfl (by rw [hQ]; exact ⟨by rw [ef]; rfl, by rw [ef]; exact hd0.bad (by decide)⟩)
        · skip
          replace c4 := mt (i_eq (a := 0) (b := 0) (by omega) (by omega)).mpr (of_decide_eq_false c4)
          omega
    · skip
      replace c2 : decide (oN (m_fst (gP s.nm (K i).v) g) = (-1)) = true := by simpa using c2
      replace c2 := of_decide_eq_true c2
      refine Pv.aload rfl rfl ?_
      refine Pv.aload rfl rfl ?_
      refine Pv.getL (z := G.2.2.1 3 8) rfl rfl (rfl) ?_
      refine Pv.callVI (as := [.ref r, .long (G.2.2.1 3 8)]) (rest := []) (z := oN (m_fst (mP s.nm (K i).v) m)) rfl rfl rfl (c_mn2 sg hg hm (hd0.2.2.1.2.2.2 k2) ((hT.v hi).2 k2)) ?_
      refine Pv.lit rfl ?_
      refine Pv.icmp rfl (fun c5 => ?_) (fun c5 => ?_)
      · skip
        replace c5 : decide (oN (m_fst (mP s.nm (K i).v) m) = (-1)) = false := by simpa using c5
        replace c5 := of_decide_eq_false c5
        refine Pv.lit rfl ?_
        refine Pv.istore (lo' := [some (.ref r), some (.ref 3), some (.int 0)]) rfl rfl ?_
        refine Pv.iload rfl rfl ?_
        refine Pv.if0 rfl (fun c6 => ?_) (fun c6 => ?_)
        · skip
          replace c6 : decide ((0 : Int32) = 0) = false := by simpa using c6
          replace c6 := mt (i_eq (a := 0) (b := 0) (by omega) (by omega)).mpr (of_decide_eq_false c6)
          omega
        · skip
          replace c6 : decide ((0 : Int32) = 0) = true := by simpa using c6
          replace c6 := (i_eq (a := 0) (b := 0) (by omega) (by omega)).mp (of_decide_eq_true c6)
          refine Pv.aload rfl rfl ?_
          refine Pv.lit rfl ?_
          refine Pv.callVI (as := [.ref 3, .int 3]) (rest := []) (z := 0) rfl rfl rfl (c_fail (c := 3)) ?_
          refine Pv.if0 rfl (fun c7 => ?_) (fun c7 => ?_)
          · skip
            replace c7 := (i_eq (a := 0) (b := 0) (by omega) (by omega)).mp (of_decide_eq_true c7)
            refine Pv.lit rfl ?_
            have ef : fsc s (K i) = 3 := (fsc_c hg hm bg bm k2).trans (if_neg (fun z => c5 z.2))
            exact Pv.zret rfl (by rw [hQ]; exact ⟨by rw [ef]; rfl, by rw [ef]; exact hd0.bad (by decide)⟩)
          · skip
            replace c7 := mt (i_eq (a := 0) (b := 0) (by omega) (by omega)).mpr (of_decide_eq_false c7)
            omega
      · skip
        replace c5 : decide (oN (m_fst (mP s.nm (K i).v) m) = (-1)) = true := by simpa using c5
        replace c5 := of_decide_eq_true c5
        refine Pv.lit rfl ?_
        refine Pv.goto rfl ?_
        refine Pv.istore (lo' := [some (.ref r), some (.ref 3), some (.int 1)]) rfl rfl ?_
        refine Pv.iload rfl rfl ?_
        refine Pv.if0 rfl (fun c8 => ?_) (fun c8 => ?_)
        · skip
          replace c8 : decide ((1 : Int32) = 0) = false := by simpa using c8
          replace c8 := mt (i_eq (a := 1) (b := 0) (by omega) (by omega)).mpr (of_decide_eq_false c8)
          refine Pv.lit rfl ?_
          refine Pv.goto rfl ?_
          have ef : fsc s (K i) = 0 := (fsc_c hg hm bg bm k2).trans (if_pos ⟨c2, c5⟩)
          exact Pv.zret rfl (by rw [hQ]; exact ⟨by rw [ef]; rfl, by rw [ef]; exact hd0⟩)
        · skip
          replace c8 : decide ((1 : Int32) = 0) = true := by simpa using c8
          replace c8 := (i_eq (a := 1) (b := 0) (by omega) (by omega)).mp (of_decide_eq_true c8)
          omega
  · skip
    replace c1 : decide (b2i (decide (tnW (K i) = 0)) = 0) = true := by simpa using c1
    replace c1 := of_decide_eq_true c1
    replace c1 := b2z.mp c1
    refine Pv.lit rfl ?_
    have h1 := tnW_1 (of_decide_eq_false c1)
    have ef : fsc s (K i) = 1 := fsc_1 h1.2
    exact Pv.zret rfl (by rw [hQ]; exact ⟨by rw [ef]; rfl, by rw [ef]; have q := hd; rw [h1.1] at q; exact q⟩)
set_option maxRecDepth 100000 in
set_option maxHeartbeats 4000000 in
theorem c_tkm {F : FW} {K : Nat → TT} {mz i r : Nat} {s : PS} {g m : Nat} (hG : GW F) (hT : TKF F K mz) (h4 : F.1 3 4 = Int32.ofNat i) (hi : i < mz) (hr : 40 ≤ r) (hs : SCF F r s) (hg : s.h 0 = (g : Int)) (hm : s.h 1 = (m : Int)) : Pm Z_X7_takeMan [.ref r, .ref 3] F (fun r' F' => r' = some (.int (tmz s.nm 6 m (K i))) ∧ RDC F F' (K i) i (lkc s.nm 6 m (K i))) := by
  refine Pm.of fun N => ?_
  obtain ⟨Q, hQ⟩ : ∃ Q : Option Value → FW → Prop, Q = (fun r' F' => r' = some (.int (tmz s.nm 6 m (K i))) ∧ RDC F F' (K i) i (lkc s.nm 6 m (K i))) := ⟨_, rfl⟩
  rw [← hQ]
  have bb := hs.b
  unfold PSB at bb
  have bg : g ≤ 6 := by omega
  have bm : m ≤ 8 := by omega
  refine (show Pv (ab_T (L_X7_takeMan Z_X9_takeName Z_X7_manNamed Z_X9_fail)) N 0 [some (.ref r), some (.ref 3), none] [] F Q from ?_)
  refine Pv.aload rfl rfl ?_
  refine Pv.callV (as := [.ref 3]) (rest := []) rfl rfl rfl (c_takeName hG hT h4 hi) ?_
  rintro _ G ⟨rfl, hd⟩
  have gw := RCX.G hd.1 hG
  have sg := hs.rx hd.1 hr
  refine (show Pv _ _ 4 [some (.ref r), some (.ref 3), none] [.int (b2i (decide (tnW (K i) = 0)))] G Q from ?_)
  refine Pv.if0 rfl (fun c1 => ?_) (fun c1 => ?_)
  · skip
    replace c1 : decide (b2i (decide (tnW (K i) = 0)) = 0) = false := by simpa using c1
    replace c1 := of_decide_eq_false c1
    replace c1 := b2n.mp c1
    have h0 : tnW (K i) = 0 := (of_decide_eq_true c1)
    have k2 := tnW_k h0
    have hd0 : RDC F G (K i) i 0 := by have q := hd; rw [h0] at q; exact q
    refine Pv.aload rfl rfl ?_
    refine Pv.aload rfl rfl ?_
    refine Pv.getL (z := G.2.2.1 3 8) rfl rfl (rfl) ?_
    refine Pv.callVI (as := [.ref r, .long (G.2.2.1 3 8)]) (rest := []) (z := oN (m_fst (mP s.nm (K i).v) m)) rfl rfl rfl (c_mn2 sg hg hm (hd0.2.2.1.2.2.2 k2) ((hT.v hi).2 k2)) ?_
    refine Pv.istore (lo' := [some (.ref r), some (.ref 3), some (.int (oN (m_fst (mP s.nm (K i).v) m)))]) rfl rfl ?_
    refine Pv.iload rfl rfl ?_
    refine Pv.lit rfl ?_
    refine Pv.icmp rfl (fun c2 => ?_) (fun c2 => ?_)
    · skip
      replace c2 : decide (oN (m_fst (mP s.nm (K i).v) m) = (-1)) = false := by simpa using c2
      replace c2 := of_decide_eq_false c2
      refine Pv.iload rfl rfl ?_
      have et : (tmz s.nm 6 m (K i)) = oN (m_fst (fP s.nm 6 (K i).v) m) := if_pos k2
      have e1 : ¬ oN (m_fst (fP s.nm 6 (K i).v) m) = -1 := c2
      have el : (lkc s.nm 6 m (K i)) = 0 := (if_pos k2).trans (if_neg e1)
      exact Pv.ret rfl (by rw [hQ]; exact ⟨by rw [et]; rw [fP_6], by rw [el]; exact hd0⟩)
    · skip
      replace c2 : decide (oN (m_fst (mP s.nm (K i).v) m) = (-1)) = true := by simpa using c2
      replace c2 := of_decide_eq_true c2
      refine Pv.aload rfl rfl ?_
      refine Pv.lit rfl ?_
      refine Pv.callVI (as := [.ref 3, .int 3]) (rest := []) (z := 0) rfl rfl rfl (c_fail (c := 3)) ?_
      refine Pv.pop rfl ?_
      refine Pv.iload rfl rfl ?_
      have et : (tmz s.nm 6 m (K i)) = oN (m_fst (fP s.nm 6 (K i).v) m) := if_pos k2
      have e1 : oN (m_fst (fP s.nm 6 (K i).v) m) = -1 := c2
      have el : (lkc s.nm 6 m (K i)) = 3 := (if_pos k2).trans (if_pos e1)
      exact Pv.ret rfl (by rw [hQ]; exact ⟨by rw [et]; rw [fP_6], by rw [el]; exact hd0.bad (by decide)⟩)
  · skip
    replace c1 : decide (b2i (decide (tnW (K i) = 0)) = 0) = true := by simpa using c1
    replace c1 := of_decide_eq_true c1
    replace c1 := b2z.mp c1
    refine Pv.lit rfl ?_
    have h1 := tnW_1 (of_decide_eq_false c1)
    have el : (lkc s.nm 6 m (K i)) = 1 := lkc_1 h1.2
    have et : (tmz s.nm 6 m (K i)) = -1 := (tmz_n bm).mpr (by rw [el]; decide)
    exact Pv.ret rfl (by rw [hQ]; exact ⟨by rw [et], by rw [el]; have q := hd; rw [h1.1] at q; exact q⟩)
set_option maxRecDepth 100000 in
set_option maxHeartbeats 4000000 in
theorem c_tkg {F : FW} {K : Nat → TT} {mz i r : Nat} {s : PS} {g m : Nat} (hG : GW F) (hT : TKF F K mz) (h4 : F.1 3 4 = Int32.ofNat i) (hi : i < mz) (hr : 40 ≤ r) (hs : SCF F r s) (hg : s.h 0 = (g : Int)) (hm : s.h 1 = (m : Int)) : Pm Z_X7_takeGood [.ref r, .ref 3] F (fun r' F' => r' = some (.int (tmz s.nm 0 g (K i))) ∧ RDC F F' (K i) i (lkc s.nm 0 g (K i))) := by
  refine Pm.of fun N => ?_
  obtain ⟨Q, hQ⟩ : ∃ Q : Option Value → FW → Prop, Q = (fun r' F' => r' = some (.int (tmz s.nm 0 g (K i))) ∧ RDC F F' (K i) i (lkc s.nm 0 g (K i))) := ⟨_, rfl⟩
  rw [← hQ]
  have bb := hs.b
  unfold PSB at bb
  have bg : g ≤ 6 := by omega
  have bm : m ≤ 8 := by omega
  refine (show Pv (ab_T (L_X7_takeGood Z_X9_takeName Z_X7_goodNamed Z_X9_fail)) N 0 [some (.ref r), some (.ref 3), none] [] F Q from ?_)
  refine Pv.aload rfl rfl ?_
  refine Pv.callV (as := [.ref 3]) (rest := []) rfl rfl rfl (c_takeName hG hT h4 hi) ?_
  rintro _ G ⟨rfl, hd⟩
  have gw := RCX.G hd.1 hG
  have sg := hs.rx hd.1 hr
  refine (show Pv _ _ 4 [some (.ref r), some (.ref 3), none] [.int (b2i (decide (tnW (K i) = 0)))] G Q from ?_)
  refine Pv.if0 rfl (fun c1 => ?_) (fun c1 => ?_)
  · skip
    replace c1 : decide (b2i (decide (tnW (K i) = 0)) = 0) = false := by simpa using c1
    replace c1 := of_decide_eq_false c1
    replace c1 := b2n.mp c1
    have h0 : tnW (K i) = 0 := (of_decide_eq_true c1)
    have k2 := tnW_k h0
    have hd0 : RDC F G (K i) i 0 := by have q := hd; rw [h0] at q; exact q
    refine Pv.aload rfl rfl ?_
    refine Pv.aload rfl rfl ?_
    refine Pv.getL (z := G.2.2.1 3 8) rfl rfl (rfl) ?_
    refine Pv.callVI (as := [.ref r, .long (G.2.2.1 3 8)]) (rest := []) (z := oN (m_fst (gP s.nm (K i).v) g)) rfl rfl rfl (c_gn2 sg hg hm (hd0.2.2.1.2.2.2 k2) ((hT.v hi).2 k2)) ?_
    refine Pv.istore (lo' := [some (.ref r), some (.ref 3), some (.int (oN (m_fst (gP s.nm (K i).v) g)))]) rfl rfl ?_
    refine Pv.iload rfl rfl ?_
    refine Pv.lit rfl ?_
    refine Pv.icmp rfl (fun c2 => ?_) (fun c2 => ?_)
    · skip
      replace c2 : decide (oN (m_fst (gP s.nm (K i).v) g) = (-1)) = false := by simpa using c2
      replace c2 := of_decide_eq_false c2
      refine Pv.iload rfl rfl ?_
      have et : (tmz s.nm 0 g (K i)) = oN (m_fst (fP s.nm 0 (K i).v) g) := if_pos k2
      have e1 : ¬ oN (m_fst (fP s.nm 0 (K i).v) g) = -1 := by rw [fP_0]; exact c2
      have el : (lkc s.nm 0 g (K i)) = 0 := (if_pos k2).trans (if_neg e1)
      exact Pv.ret rfl (by rw [hQ]; exact ⟨by rw [et]; rw [fP_0], by rw [el]; exact hd0⟩)
    · skip
      replace c2 : decide (oN (m_fst (gP s.nm (K i).v) g) = (-1)) = true := by simpa using c2
      replace c2 := of_decide_eq_true c2
      refine Pv.aload rfl rfl ?_
      refine Pv.lit rfl ?_
      refine Pv.callVI (as := [.ref 3, .int 3]) (rest := []) (z := 0) rfl rfl rfl (c_fail (c := 3)) ?_
      refine Pv.pop rfl ?_
      refine Pv.iload rfl rfl ?_
      have et : (tmz s.nm 0 g (K i)) = oN (m_fst (fP s.nm 0 (K i).v) g) := if_pos k2
      have e1 : oN (m_fst (fP s.nm 0 (K i).v) g) = -1 := by rw [fP_0]; exact c2
      have el : (lkc s.nm 0 g (K i)) = 3 := (if_pos k2).trans (if_pos e1)
      exact Pv.ret rfl (by rw [hQ]; exact ⟨by rw [et]; rw [fP_0], by rw [el]; exact hd0.bad (by decide)⟩)
  · skip
    replace c1 : decide (b2i (decide (tnW (K i) = 0)) = 0) = true := by simpa using c1
    replace c1 := of_decide_eq_true c1
    replace c1 := b2z.mp c1
    refine Pv.lit rfl ?_
    have h1 := tnW_1 (of_decide_eq_false c1)
    have el : (lkc s.nm 0 g (K i)) = 1 := lkc_1 h1.2
    have et : (tmz s.nm 0 g (K i)) = -1 := (tmz_n (by omega)).mpr (by rw [el]; decide)
    exact Pv.ret rfl (by rw [hQ]; exact ⟨by rw [et], by rw [el]; have q := hd; rw [h1.1] at q; exact q⟩)
end
-- 63.b9g.sc.lean.txt
section
theorem fsc_k {s : PS} {X : TT} (h : fsc s X = 0) : X.k = 2 := by
  unfold fsc at h
  by_cases c : X.k = 2
  · exact c
  · rw [if_neg c] at h
    exact absurd h (by decide)
theorem SCF.eq5 {F : FW} {r k w : Nat} {s : PS} (h : SCF F r s) (hk : (k : Int) < s.h 3) (hw : w < 1000) : F.1 (r + 5) k = Int32.ofNat w ↔ s.h (60 + k) = (w : Int) := by
  rw [k_eq (h.ms hk).1, i_toInt (by omega)]
theorem SCF.eq6 {F : FW} {r k w : Nat} {s : PS} (h : SCF F r s) (hk : (k : Int) < s.h 3) (hw : w < 1000) : F.1 (r + 6) k = Int32.ofNat w ↔ s.h (80 + k) = (w : Int) := by
  rw [k_eq (h.ms hk).2.1, i_toInt (by omega)]
theorem mtold_up {h : Nat → Int} {m o : Int} {k : Nat} (e : mtold h m o k = true) : ∀ d, mtold h m o (k + d) = true
  | 0 => e
  | d + 1 => by
    show (mtold h m o (k + d) || _) = true
    rw [mtold_up e d]
    rfl
theorem mtold_y {h : Nat → Int} {m o : Int} {k q : Nat} (hk : k < q) (e1 : h (60 + k) = m) (e2 : h (80 + k) = o) : mtold h m o q = true := by
  have e : mtold h m o (k + 1) = true := by
    show (mtold h m o k || (decide (h (60 + k) = m) && decide (h (80 + k) = o))) = true
    rw [decide_eq_true e1, decide_eq_true e2]
    cases mtold h m o k <;> rfl
  have := mtold_up e (q - (k + 1))
  rwa [show k + 1 + (q - (k + 1)) = q by omega] at this
theorem mtold_s {h : Nat → Int} {m o : Int} {k : Nat} (hb : mtold h m o k = false) (e : ¬ (h (60 + k) = m ∧ h (80 + k) = o)) : mtold h m o (k + 1) = false := by
  show (mtold h m o k || (decide (h (60 + k) = m) && decide (h (80 + k) = o))) = false
  rw [hb]
  by_cases c : h (60 + k) = m
  · by_cases d : h (80 + k) = o
    · exact absurd ⟨c, d⟩ e
    · rw [decide_eq_false d, Bool.and_false]
      rfl
  · rw [decide_eq_false c]
    rfl
theorem lnMan_z {T : Nat → TT} {s : PS} {m i : Nat} (h8 : ¬ 8 ≤ s.h 1) (hm : s.h 1 = (m : Int)) (ez : fsc s (T (i + 1)) = 0) (ep : tnN (T (i + 2)) 0 1 = 0) : lnMan T s i = LR.ok (ups (ups s.h (52 + m) (T (i + 2)).v) 1 (s.h 1 + 1), ups s.nm (6 + m) (T (i + 1)).v, s.ld, s.tl) (i + 3) := by
  have e := lnMan_y h8 hm ez ep
  rw [ups_ne (show 1 ≠ 52 + m by omega)] at e
  exact e
theorem lnMiss_z {T : Nat → TT} {s : PS} {m q w1 w2 i : Nat} (h20 : ¬ 20 ≤ s.h 3) (hm : s.h 1 = (m : Int)) (hq : s.h 3 = (q : Int)) (l1 : ∀ k : Int → LR, lold T s 6 (m : Int) (i + 1) k = k (w1 : Int)) (l2 : ∀ k : Int → LR, lold T s 6 (m : Int) (i + 2) k = k (w2 : Int)) (hM : ¬ ((w1 : Int) = (w2 : Int) ∨ mtold s.h (w1 : Int) (w2 : Int) q = true)) (ep : tnN (T (i + 3)) 0 60 = 0) :
    lnMiss T s i = LR.ok (ups (ups (ups (ups s.h (60 + q) (w1 : Int)) (80 + q) (w2 : Int)) (100 + q) (T (i + 3)).v) 3 (s.h 3 + 1), s.2) (i + 4) := by
  have e := lnMiss_y h20 hm hq l1 l2 hM ep
  rw [ups_ne (show 3 ≠ 100 + q by omega), ups_ne (show 3 ≠ 80 + q by omega), ups_ne (show 3 ≠ 60 + q by omega)] at e
  exact e
theorem kd66 {a : Int32} {k : Int} {so : Nat} (h : a.toInt = k) (e : k = 66 + (so : Int)) (h4 : so < 4) : a - 66 = Int32.ofNat so := by
  have h1 : a = Int32.ofNat (66 + so) := by
    have := i_ofv h (by omega)
    rw [this, show k.toNat = 66 + so by omega]
  rw [h1]
  have z : ∀ so, so < 4 → Int32.ofNat (66 + so) - 66 = Int32.ofNat so := by decide
  exact z so h4
theorem tab8 {x : Int} (h : x < 64 ∨ 71 < x) : cond (decide (x < 64)) 104 ((([80, 86, 104, 104, 104, 104, 92, 98] : List Nat)[(x - 64).toNat]?).getD 104) = 104 := by
  rcases h with h | h
  · rw [decide_eq_true h]
    rfl
  · rw [decide_eq_false (by omega)]
    show (([80, 86, 104, 104, 104, 104, 92, 98] : List Nat)[(x - 64).toNat]?).getD 104 = 104
    rw [List.getElem?_eq_none_iff.mpr (by show 8 ≤ _; omega)]
    rfl
/-- a line that stands goes on -/
def BJ (i : Nat) (x : LR) : Prop := ∀ s j, x = LR.ok s j → i < j
theorem BJ.b {i j : Nat} {f : Int} : BJ i (LR.bad f j) := fun s' j' e => by cases e
theorem BJ.o {i j : Nat} {s : PS} (h : i < j) : BJ i (LR.ok s j) := fun s' j' e => by
  have e2 := Sum.inl.inj e
  rw [← (Prod.mk.inj e2).2]
  exact h
theorem BJ.num {T : Nat → TT} {i j : Nat} {lo hi : Int} {k : Int → LR} (h : ∀ v, BJ i (k v)) : BJ i (lnum T j lo hi k) := by
  unfold lnum
  split
  · exact BJ.b
  · split
    · exact BJ.b
    · exact h _
theorem BJ.old {T : Nat → TT} {s : PS} {i o j : Nat} {n : Int} {k : Int → LR} (h : ∀ v, BJ i (k v)) : BJ i (lold T s o n j k) := by
  unfold lold
  split
  · exact BJ.b
  · split
    · exact BJ.b
    · exact h _
theorem BJ.new {T : Nat → TT} {s : PS} {i j : Nat} {k : Int → LR} (h : ∀ v, BJ i (k v)) : BJ i (lnew T s j k) := by
  unfold lnew
  split
  · exact BJ.b
  · split
    · exact BJ.b
    · exact h _
theorem BJ.x {T : Nat → TT} {s : PS} {i : Nat} : BJ i (lnx T s i) := by
  unfold lnx
  split
  · unfold lnLoad
    split
    · exact BJ.b
    · exact BJ.num fun _ => BJ.o (by omega)
  · split
    · unfold lnGood
      split
      · exact BJ.b
      · exact BJ.new fun _ => BJ.o (by omega)
    · split
      · unfold lnMan
        split
        · exact BJ.b
        · exact BJ.new fun _ => BJ.num fun _ => BJ.o (by omega)
      · split
        · unfold lnMiss
          split
          · exact BJ.b
          · refine BJ.old fun _ => BJ.old fun _ => ?_
            split
            · exact BJ.b
            · exact BJ.num fun _ => BJ.o (by omega)
        · split
          · unfold lnAmt
            refine BJ.old fun _ => BJ.num fun _ => ?_
            split
            · exact BJ.b
            · exact BJ.num fun _ => BJ.o (by omega)
          · exact BJ.b
end
-- 63.b9h.lean.txt
section
set_option maxRecDepth 100000 in
set_option maxHeartbeats 4000000 in
theorem c_rload {F : FW} {K : Nat → TT} {mz i r : Nat} {s : PS} {g m q : Nat} (hG : GW F) (hT : TKF F K mz) (h4 : F.1 3 4 = Int32.ofNat (i + 1)) (hi : i + 1 < mz) (hr : 40 ≤ r) (hs : SCF F r s) (hg : s.h 0 = (g : Int)) (hm : s.h 1 = (m : Int)) (hq : s.h 3 = (q : Int)) (hcu : CURF F (K i)) : Pm Z_X7_readLoad [.ref r, .ref 3] F (fun r' F' => LCQ F F' K mz r r' (lnLoad K s i)) := by
  refine Pm.of fun N => ?_
  obtain ⟨Q, hQ⟩ : ∃ Q : Option Value → FW → Prop, Q = (fun r' F' => LCQ F F' K mz r r' (lnLoad K s i)) := ⟨_, rfl⟩
  rw [← hQ]
  have bb := hs.b
  unfold PSB at bb
  have bg : g ≤ 6 := by omega
  have bm : m ≤ 8 := by omega
  have bq : q ≤ 20 := by omega
  refine (show Pv (ab_T (L_X7_readLoad Z_X9_fail Z_X9_takeNumber)) N 0 [some (.ref r), some (.ref 3)] [] F Q from ?_)
  refine Pv.aload rfl rfl ?_
  refine Pv.getI (z := (if s.ld = true then 1 else 0)) rfl rfl (hs.ld) ?_
  refine Pv.if0 rfl (fun c1 => ?_) (fun c1 => ?_)
  · skip
    replace c1 := of_decide_eq_true c1
    refine Pv.aload rfl rfl ?_
    refine Pv.lit rfl ?_
    refine Pv.lit rfl ?_
    refine Pv.callV (as := [.ref 3, .int 1, .int 40]) (rest := []) rfl rfl rfl (c_takeNumber hG hT h4 hi 1 40) ?_
    rintro _ G1 ⟨rfl, hd1x⟩
    have hd1 : RDC F G1 (K (i + 1)) (i + 1) (tnN (K (i + 1)) (1 : Int32).toInt (40 : Int32).toInt) := hd1x
    have gw1 := RCX.G hd1.1 hG
    have tk1 := RCX.TK hd1.1 hT
    have sg1 := (hs).rx hd1.1 hr
    refine (show Pv _ _ 20 [some (.ref r), some (.ref 3)] [.int (b2i (decide (tnN (K (i + 1)) (1 : Int32).toInt (40 : Int32).toInt = 0)))] G1 Q from ?_)
    refine Pv.if0 rfl (fun c2 => ?_) (fun c2 => ?_)
    · skip
      replace c2 : decide (b2i (decide (tnN (K (i + 1)) (1 : Int32).toInt (40 : Int32).toInt = 0)) = 0) = false := by simpa using c2
      replace c2 := of_decide_eq_false c2
      replace c2 := b2n.mp c2
      have ea := of_decide_eq_true c2
      have ka := tnN_k ea
      have ua := tk1.up hi (by rw [ka.1]; decide) (by rw [ka.1]; decide)
      have za : G1.1 3 9 = F.1 3 9 := hd1.ok9 ea
      have va := hd1.2.2.1.2.2.1 ka.1
      refine Pv.aload rfl rfl ?_
      refine Pv.lit rfl ?_
      refine Pv.putI rfl rfl ?_
      refine Pv.aload rfl rfl ?_
      refine Pv.aload rfl rfl ?_
      refine Pv.getI (z := G1.1 3 7) rfl rfl (fp_ne (Or.inl (by omega))) ?_
      refine Pv.putI rfl rfl ?_
      refine Pv.lit rfl ?_
      have l1 : ¬ s.ld = true := ld_0.mp c1
      exact Pv.zret rfl (by rw [hQ]; exact LCQ.ok (by unfold lnLoad; rw [if_neg l1]; exact lnum_y ea) (((CSX.rx CSX.rf hd1.1).p (by omega) hr).p (by omega) hr) ((fp_ne (Or.inl (by omega))).trans ((fp_ne (Or.inl (by omega))).trans (hd1.2.1))) ((fp_ne (Or.inl (by omega))).trans ((fp_ne (Or.inl (by omega))).trans (za))) (sg1.load va) ua)
    · skip
      replace c2 : decide (b2i (decide (tnN (K (i + 1)) (1 : Int32).toInt (40 : Int32).toInt = 0)) = 0) = true := by simpa using c2
      replace c2 := of_decide_eq_true c2
      replace c2 := b2z.mp c2
      refine Pv.lit rfl ?_
      have l1 : ¬ s.ld = true := ld_0.mp c1
      have en := of_decide_eq_false c2
      exact Pv.zret rfl (by rw [hQ]; exact LCQ.bad (by unfold lnLoad; rw [if_neg l1]; exact lnum_n en) (CSX.rx CSX.rf hd1.1) (congrArg Int32.toInt (hd1.bad9 en)) hd1.2.2.1)
  · skip
    replace c1 := of_decide_eq_false c1
    refine Pv.aload rfl rfl ?_
    refine Pv.lit rfl ?_
    refine Pv.callVI (as := [.ref 3, .int 3]) (rest := []) (z := 0) rfl rfl rfl (c_fail (c := 3)) ?_
    have l1 : s.ld = true := Classical.byContradiction fun z => c1 (ld_0.mpr z)
    exact Pv.zret rfl (by rw [hQ]; exact LCQ.fl (c := 3) (j := i) (by unfold lnLoad; rw [if_pos l1]; rfl) CSX.rf hcu)
set_option maxRecDepth 100000 in
set_option maxHeartbeats 4000000 in
theorem c_rgood {F : FW} {K : Nat → TT} {mz i r : Nat} {s : PS} {g m q : Nat} (hG : GW F) (hT : TKF F K mz) (h4 : F.1 3 4 = Int32.ofNat (i + 1)) (hi : i + 1 < mz) (hr : 40 ≤ r) (hs : SCF F r s) (hg : s.h 0 = (g : Int)) (hm : s.h 1 = (m : Int)) (hq : s.h 3 = (q : Int)) (hcu : CURF F (K i)) : Pm Z_X7_readGood [.ref r, .ref 3] F (fun r' F' => LCQ F F' K mz r r' (lnGood K s i)) := by
  refine Pm.of fun N => ?_
  obtain ⟨Q, hQ⟩ : ∃ Q : Option Value → FW → Prop, Q = (fun r' F' => LCQ F F' K mz r r' (lnGood K s i)) := ⟨_, rfl⟩
  rw [← hQ]
  have bb := hs.b
  unfold PSB at bb
  have bg : g ≤ 6 := by omega
  have bm : m ≤ 8 := by omega
  have bq : q ≤ 20 := by omega
  refine (show Pv (ab_T (L_X7_readGood Z_X9_fail Z_X7_takeNewName)) N 0 [some (.ref r), some (.ref 3)] [] F Q from ?_)
  refine Pv.aload rfl rfl ?_
  refine Pv.getI (z := Int32.ofNat g) rfl rfl (hs.at0 hg) ?_
  refine Pv.lit rfl ?_
  refine Pv.icmp rfl (fun c1 => ?_) (fun c1 => ?_)
  · skip
    replace c1 := (i_lt (a := g) (b := 6) (by omega) (by omega)).mp (of_decide_eq_true c1)
    refine Pv.aload rfl rfl ?_
    refine Pv.aload rfl rfl ?_
    refine Pv.callV (as := [.ref r, .ref 3]) (rest := []) rfl rfl rfl (c_tnn hG hT h4 hi hr (hs) hg hm) ?_
    rintro _ G1 ⟨rfl, hd1x⟩
    have hd1 : RDC F G1 (K (i + 1)) (i + 1) (fsc s (K (i + 1))) := hd1x
    have gw1 := RCX.G hd1.1 hG
    have tk1 := RCX.TK hd1.1 hT
    have sg1 := (hs).rx hd1.1 hr
    refine (show Pv _ _ 20 [some (.ref r), some (.ref 3)] [.int (b2i (decide (fsc s (K (i + 1)) = 0)))] G1 Q from ?_)
    refine Pv.if0 rfl (fun c2 => ?_) (fun c2 => ?_)
    · skip
      replace c2 : decide (b2i (decide (fsc s (K (i + 1)) = 0)) = 0) = false := by simpa using c2
      replace c2 := of_decide_eq_false c2
      replace c2 := b2n.mp c2
      have ea := of_decide_eq_true c2
      have ka := fsc_k ea
      have ua := tk1.up hi (by rw [ka]; decide) (by rw [ka]; decide)
      have za : G1.1 3 9 = F.1 3 9 := hd1.ok9 ea
      refine Pv.aload rfl rfl ?_
      refine Pv.getR (v := .ref (r + 1)) rfl rfl (sg1.o 0 (by decide)) ?_
      refine Pv.aload rfl rfl ?_
      refine Pv.getI (z := Int32.ofNat g) rfl rfl (sg1.at0 hg) ?_
      refine Pv.aload rfl rfl ?_
      refine Pv.getL (z := G1.2.2.1 3 8) rfl rfl (rfl) ?_
      refine Pv.lastk (k := g) rfl (i_toNat (by omega)) ?_
      refine Pv.aload rfl rfl ?_
      refine Pv.dup rfl ?_
      refine Pv.getI (z := Int32.ofNat g) rfl rfl ((fpl_i).trans (sg1.at0 hg)) ?_
      refine Pv.lit rfl ?_
      refine Pv.bin (z := Int32.ofNat (g + 1)) rfl (i_add g 1) ?_
      refine Pv.putI rfl rfl ?_
      refine Pv.lit rfl ?_
      exact Pv.zret rfl (by rw [hQ]; exact LCQ.ok (by unfold lnGood; rw [if_neg (by omega)]; exact lnew_y ea) (((CSX.rx CSX.rf hd1.1).pl (by omega) hr).p (by omega) hr) ((fp_ne (Or.inl (by omega))).trans ((fpl_i).trans (hd1.2.1))) ((fp_ne (Or.inl (by omega))).trans ((fpl_i).trans (za))) (sg1.good hg (by omega) (hd1.2.2.1.2.2.2 ka) ((hT.v hi).2 ka)) ua)
    · skip
      replace c2 : decide (b2i (decide (fsc s (K (i + 1)) = 0)) = 0) = true := by simpa using c2
      replace c2 := of_decide_eq_true c2
      replace c2 := b2z.mp c2
      refine Pv.lit rfl ?_
      have en := of_decide_eq_false c2
      exact Pv.zret rfl (by rw [hQ]; exact LCQ.bad (by unfold lnGood; rw [if_neg (by omega)]; exact lnew_n en) (CSX.rx CSX.rf hd1.1) (congrArg Int32.toInt (hd1.bad9 en)) hd1.2.2.1)
  · skip
    replace c1 := mt (i_lt (a := g) (b := 6) (by omega) (by omega)).mpr (of_decide_eq_false c1)
    refine Pv.aload rfl rfl ?_
    refine Pv.lit rfl ?_
    refine Pv.callVI (as := [.ref 3, .int 4]) (rest := []) (z := 0) rfl rfl rfl (c_fail (c := 4)) ?_
    exact Pv.zret rfl (by rw [hQ]; exact LCQ.fl (c := 4) (j := i) (by unfold lnGood; rw [if_pos (by omega)]; rfl) CSX.rf hcu)
set_option maxRecDepth 100000 in
set_option maxHeartbeats 4000000 in
theorem c_rman {F : FW} {K : Nat → TT} {mz i r : Nat} {s : PS} {g m q : Nat} (hG : GW F) (hT : TKF F K mz) (h4 : F.1 3 4 = Int32.ofNat (i + 1)) (hi : i + 1 < mz) (hr : 40 ≤ r) (hs : SCF F r s) (hg : s.h 0 = (g : Int)) (hm : s.h 1 = (m : Int)) (hq : s.h 3 = (q : Int)) (hcu : CURF F (K i)) : Pm Z_X7_readMan [.ref r, .ref 3] F (fun r' F' => LCQ F F' K mz r r' (lnMan K s i)) := by
  refine Pm.of fun N => ?_
  obtain ⟨Q, hQ⟩ : ∃ Q : Option Value → FW → Prop, Q = (fun r' F' => LCQ F F' K mz r r' (lnMan K s i)) := ⟨_, rfl⟩
  rw [← hQ]
  have bb := hs.b
  unfold PSB at bb
  have bg : g ≤ 6 := by omega
  have bm : m ≤ 8 := by omega
  have bq : q ≤ 20 := by omega
  refine (show Pv (ab_T (L_X7_readMan Z_X9_fail Z_X7_takeNewName Z_X9_takeNumber)) N 0 [some (.ref r), some (.ref 3), none, none] [] F Q from ?_)
  refine Pv.aload rfl rfl ?_
  refine Pv.getI (z := Int32.ofNat m) rfl rfl (hs.at1 hm) ?_
  refine Pv.lit rfl ?_
  refine Pv.icmp rfl (fun c1 => ?_) (fun c1 => ?_)
  · skip
    replace c1 := (i_lt (a := m) (b := 8) (by omega) (by omega)).mp (of_decide_eq_true c1)
    refine Pv.aload rfl rfl ?_
    refine Pv.aload rfl rfl ?_
    refine Pv.callV (as := [.ref r, .ref 3]) (rest := []) rfl rfl rfl (c_tnn hG hT h4 hi hr (hs) hg hm) ?_
    rintro _ G1 ⟨rfl, hd1x⟩
    have hd1 : RDC F G1 (K (i + 1)) (i + 1) (fsc s (K (i + 1))) := hd1x
    have gw1 := RCX.G hd1.1 hG
    have tk1 := RCX.TK hd1.1 hT
    have sg1 := (hs).rx hd1.1 hr
    refine (show Pv _ _ 20 [some (.ref r), some (.ref 3), none, none] [.int (b2i (decide (fsc s (K (i + 1)) = 0)))] G1 Q from ?_)
    refine Pv.if0 rfl (fun c2 => ?_) (fun c2 => ?_)
    · skip
      replace c2 : decide (b2i (decide (fsc s (K (i + 1)) = 0)) = 0) = false := by simpa using c2
      replace c2 := of_decide_eq_false c2
      replace c2 := b2n.mp c2
      have ea := of_decide_eq_true c2
      have ka := fsc_k ea
      have ua := tk1.up hi (by rw [ka]; decide) (by rw [ka]; decide)
      have za : G1.1 3 9 = F.1 3 9 := hd1.ok9 ea
      refine Pv.aload rfl rfl ?_
      refine Pv.getL (z := G1.2.2.1 3 8) rfl rfl (rfl) ?_
      refine Pv.lstore (lo' := [some (.ref r), some (.ref 3), some (.long (G1.2.2.1 3 8)), none]) rfl rfl ?_
      refine Pv.aload rfl rfl ?_
      refine Pv.lit rfl ?_
      refine Pv.lit rfl ?_
      refine Pv.callV (as := [.ref 3, .int 0, .int 1]) (rest := []) rfl rfl rfl (c_takeNumber gw1 tk1 hd1.2.1 ua 0 1) ?_
      rintro _ G2 ⟨rfl, hd2x⟩
      have hd2 : RDC G1 G2 (K (i + 2)) (i + 2) (tnN (K (i + 2)) (0 : Int32).toInt (1 : Int32).toInt) := hd2x
      have gw2 := RCX.G hd2.1 gw1
      have tk2 := RCX.TK hd2.1 tk1
      have sg2 := (sg1).rx hd2.1 hr
      refine (show Pv _ _ 36 [some (.ref r), some (.ref 3), some (.long (G1.2.2.1 3 8)), none] [.int (b2i (decide (tnN (K (i + 2)) (0 : Int32).toInt (1 : Int32).toInt = 0)))] G2 Q from ?_)
      refine Pv.if0 rfl (fun c3 => ?_) (fun c3 => ?_)
      · skip
        replace c3 : decide (b2i (decide (tnN (K (i + 2)) (0 : Int32).toInt (1 : Int32).toInt = 0)) = 0) = false := by simpa using c3
        replace c3 := of_decide_eq_false c3
        replace c3 := b2n.mp c3
        have eb := of_decide_eq_true c3
        have kb := tnN_k eb
        have ub := tk2.up ua (by rw [kb.1]; decide) (by rw [kb.1]; decide)
        have zb : G2.1 3 9 = F.1 3 9 := (hd2.ok9 eb).trans za
        have vb := hd2.2.2.1.2.2.1 kb.1
        refine Pv.aload rfl rfl ?_
        refine Pv.getR (v := .ref (r + 2)) rfl rfl (sg2.o 1 (by decide)) ?_
        refine Pv.aload rfl rfl ?_
        refine Pv.getI (z := Int32.ofNat m) rfl rfl (sg2.at1 hm) ?_
        refine Pv.lload rfl rfl ?_
        refine Pv.lastk (k := m) rfl (i_toNat (by omega)) ?_
        refine Pv.aload rfl rfl ?_
        refine Pv.getR (v := .ref (r + 3)) rfl rfl (sg2.o 2 (by decide)) ?_
        refine Pv.aload rfl rfl ?_
        refine Pv.getI (z := Int32.ofNat m) rfl rfl ((fpl_i).trans (sg2.at1 hm)) ?_
        refine Pv.aload rfl rfl ?_
        refine Pv.getI (z := G2.1 3 7) rfl rfl (fpl_i) ?_
        refine Pv.astk (k := m) (z := G2.1 3 7) rfl (i_toNat (by omega)) (rfl) ?_
        refine Pv.aload rfl rfl ?_
        refine Pv.dup rfl ?_
        refine Pv.getI (z := Int32.ofNat m) rfl rfl ((fp_ne (Or.inl (by omega))).trans ((fpl_i).trans (sg2.at1 hm))) ?_
        refine Pv.lit rfl ?_
        refine Pv.bin (z := Int32.ofNat (m + 1)) rfl (i_add m 1) ?_
        refine Pv.putI rfl rfl ?_
        refine Pv.lit rfl ?_
        exact Pv.zret rfl (by rw [hQ]; exact LCQ.ok (lnMan_z (by omega) hm ea eb) ((((CSX.rx (CSX.rx CSX.rf hd1.1) hd2.1).pl (by omega) hr).p (by omega) hr).p (by omega) hr) ((fp_ne (Or.inl (by omega))).trans ((fp_ne (Or.inl (by omega))).trans ((fpl_i).trans (hd2.2.1)))) ((fp_ne (Or.inl (by omega))).trans ((fp_ne (Or.inl (by omega))).trans ((fpl_i).trans (zb)))) (sg2.man hm (by omega) (hd1.2.2.1.2.2.2 ka) ((hT.v hi).2 ka) vb) ub)
      · skip
        replace c3 : decide (b2i (decide (tnN (K (i + 2)) (0 : Int32).toInt (1 : Int32).toInt = 0)) = 0) = true := by simpa using c3
        replace c3 := of_decide_eq_true c3
        replace c3 := b2z.mp c3
        refine Pv.lit rfl ?_
        have en := of_decide_eq_false c3
        exact Pv.zret rfl (by rw [hQ]; exact LCQ.bad (by unfold lnMan; rw [if_neg (by omega), lnew_y ea]; exact lnum_n en) (CSX.rx (CSX.rx CSX.rf hd1.1) hd2.1) (congrArg Int32.toInt (hd2.bad9 en)) hd2.2.2.1)
    · skip
      replace c2 : decide (b2i (decide (fsc s (K (i + 1)) = 0)) = 0) = true := by simpa using c2
      replace c2 := of_decide_eq_true c2
      replace c2 := b2z.mp c2
      refine Pv.lit rfl ?_
      have en := of_decide_eq_false c2
      exact Pv.zret rfl (by rw [hQ]; exact LCQ.bad (by unfold lnMan; rw [if_neg (by omega)]; exact lnew_n en) (CSX.rx CSX.rf hd1.1) (congrArg Int32.toInt (hd1.bad9 en)) hd1.2.2.1)
  · skip
    replace c1 := mt (i_lt (a := m) (b := 8) (by omega) (by omega)).mpr (of_decide_eq_false c1)
    refine Pv.aload rfl rfl ?_
    refine Pv.lit rfl ?_
    refine Pv.callVI (as := [.ref 3, .int 4]) (rest := []) (z := 0) rfl rfl rfl (c_fail (c := 4)) ?_
    exact Pv.zret rfl (by rw [hQ]; exact LCQ.fl (c := 4) (j := i) (by unfold lnMan; rw [if_pos (by omega)]; rfl) CSX.rf hcu)
end
-- 63.b9i.lean.txt
section
set_option maxRecDepth 100000 in
set_option maxHeartbeats 4000000 in
theorem c_imt {F : FW} {r : Nat} {s : PS} {g m : Nat} (hs : SCF F r s) (hg : s.h 0 = (g : Int)) (hm : s.h 1 = (m : Int)) {q w1 w2 : Nat} (hq : s.h 3 = (q : Int)) (b1 : w1 < 8) (b2 : w2 < 8) : Pm Z_X7_isMissTold [.ref r, .int (Int32.ofNat w1), .int (Int32.ofNat w2)] F (fun r F' => r = some (.int (b2i (mtold s.h (w1 : Int) (w2 : Int) q))) ∧ F' = F) := by
  refine Pm.of fun N => ?_
  obtain ⟨Q, hQ⟩ : ∃ Q : Option Value → FW → Prop, Q = (fun r F' => r = some (.int (b2i (mtold s.h (w1 : Int) (w2 : Int) q))) ∧ F' = F) := ⟨_, rfl⟩
  rw [← hQ]
  have bb := hs.b
  unfold PSB at bb
  have bg : g ≤ 6 := by omega
  have bm : m ≤ 8 := by omega
  have bq : q ≤ 20 := by omega
  refine (show Pv (ab_T L_X7_isMissTold) N 0 [some (.ref r), some (.int (Int32.ofNat w1)), some (.int (Int32.ofNat w2)), none] [] F Q from ?_)
  refine Pv.lit rfl ?_
  refine Pv.istore (lo' := [some (.ref r), some (.int (Int32.ofNat w1)), some (.int (Int32.ofNat w2)), some (.int 0)]) rfl rfl ?_
  refine Pv.lp (ι := Nat) (lof := fun k => [some (.ref r), some (.int (Int32.ofNat w1)), some (.int (Int32.ofNat w2)), some (.int (Int32.ofNat k))]) (Ff := fun k => F) (P := fun k => k ≤ q ∧ mtold s.h (w1 : Int) (w2 : Int) k = false) ?_ 0 (⟨Nat.zero_le _, rfl⟩)
  rintro N1 hN2 k hi3 ih4
  refine (show Pv _ _ 2 [some (.ref r), some (.int (Int32.ofNat w1)), some (.int (Int32.ofNat w2)), some (.int (Int32.ofNat k))] [] F Q from ?_)
  obtain ⟨hk, hb⟩ := hi3
  refine Pv.iloadS rfl rfl ?_
  refine Pv.aload rfl rfl ?_
  refine Pv.getI (z := Int32.ofNat q) rfl rfl (hs.at3 hq) ?_
  refine Pv.icmp rfl (fun c5 => ?_) (fun c5 => ?_)
  · skip
    replace c5 := (i_le (a := q) (b := k) (by omega) (by omega)).mp (of_decide_eq_true c5)
    refine Pv.lit rfl ?_
    exact Pv.zret rfl (by rw [hQ]; exact ⟨by rw [show q = k by omega, hb]; rfl, rfl⟩)
  · skip
    replace c5 := mt (i_le (a := q) (b := k) (by omega) (by omega)).mpr (of_decide_eq_false c5)
    refine Pv.aload rfl rfl ?_
    refine Pv.getR (v := .ref (r + 5)) rfl rfl (hs.o 4 (by decide)) ?_
    refine Pv.iload rfl rfl ?_
    refine Pv.ald (z := F.1 (r + 5) k) rfl (by rw [i_toNat (by omega)]) ?_
    refine Pv.iload rfl rfl ?_
    refine Pv.icmp rfl (fun c6 => ?_) (fun c6 => ?_)
    · skip
      replace c6 : decide (F.1 (r + 5) k = Int32.ofNat w1) = false := by simpa using c6
      replace c6 := of_decide_eq_false c6
      refine Pv.iinc (y := Int32.ofNat (k + 1)) (lo' := [some (.ref r), some (.int (Int32.ofNat w1)), some (.int (Int32.ofNat w2)), some (.int (Int32.ofNat (k + 1)))]) rfl rfl (i_add k 1) rfl ?_
      refine Pv.goto rfl ?_
      exact ih4 (k + 1) (⟨by omega, mtold_s hb (fun z => c6 ((hs.eq5 (by omega) (by omega)).mpr z.1))⟩)
    · skip
      replace c6 : decide (F.1 (r + 5) k = Int32.ofNat w1) = true := by simpa using c6
      replace c6 := of_decide_eq_true c6
      refine Pv.aload rfl rfl ?_
      refine Pv.getR (v := .ref (r + 6)) rfl rfl (hs.o 5 (by decide)) ?_
      refine Pv.iload rfl rfl ?_
      refine Pv.ald (z := F.1 (r + 6) k) rfl (by rw [i_toNat (by omega)]) ?_
      refine Pv.iload rfl rfl ?_
      refine Pv.icmp rfl (fun c7 => ?_) (fun c7 => ?_)
      · skip
        replace c7 : decide (F.1 (r + 6) k = Int32.ofNat w2) = false := by simpa using c7
        replace c7 := of_decide_eq_false c7
        refine Pv.iinc (y := Int32.ofNat (k + 1)) (lo' := [some (.ref r), some (.int (Int32.ofNat w1)), some (.int (Int32.ofNat w2)), some (.int (Int32.ofNat (k + 1)))]) rfl rfl (i_add k 1) rfl ?_
        refine Pv.goto rfl ?_
        exact ih4 (k + 1) (⟨by omega, mtold_s hb (fun z => c7 ((hs.eq6 (by omega) (by omega)).mpr z.2))⟩)
      · skip
        replace c7 : decide (F.1 (r + 6) k = Int32.ofNat w2) = true := by simpa using c7
        replace c7 := of_decide_eq_true c7
        refine Pv.lit rfl ?_
        exact Pv.zret rfl (by rw [hQ]; exact ⟨by rw [mtold_y (k := k) (by omega) ((hs.eq5 (by omega) (by omega)).mp c6) ((hs.eq6 (by omega) (by omega)).mp c7)]; rfl, rfl⟩)
set_option maxRecDepth 100000 in
set_option maxHeartbeats 4000000 in
theorem c_rmiss {F : FW} {K : Nat → TT} {mz i r : Nat} {s : PS} {g m q : Nat} (hG : GW F) (hT : TKF F K mz) (h4 : F.1 3 4 = Int32.ofNat (i + 1)) (hi : i + 1 < mz) (hr : 40 ≤ r) (hs : SCF F r s) (hg : s.h 0 = (g : Int)) (hm : s.h 1 = (m : Int)) (hq : s.h 3 = (q : Int)) (hcu : CURF F (K i)) : Pm Z_X7_readMisses [.ref r, .ref 3] F (fun r' F' => LCQ F F' K mz r r' (lnMiss K s i)) := by
  refine Pm.of fun N => ?_
  obtain ⟨Q, hQ⟩ : ∃ Q : Option Value → FW → Prop, Q = (fun r' F' => LCQ F F' K mz r r' (lnMiss K s i)) := ⟨_, rfl⟩
  rw [← hQ]
  have bb := hs.b
  unfold PSB at bb
  have bg : g ≤ 6 := by omega
  have bm : m ≤ 8 := by omega
  have bq : q ≤ 20 := by omega
  refine (show Pv (ab_T (L_X7_readMisses Z_X9_fail Z_X7_takeMan Z_X7_isMissTold Z_X9_takeNumber)) N 0 [some (.ref r), some (.ref 3), none, none] [] F Q from ?_)
  refine Pv.aload rfl rfl ?_
  refine Pv.getI (z := Int32.ofNat q) rfl rfl (hs.at3 hq) ?_
  refine Pv.lit rfl ?_
  refine Pv.icmp rfl (fun c1 => ?_) (fun c1 => ?_)
  · skip
    replace c1 := (i_lt (a := q) (b := 20) (by omega) (by omega)).mp (of_decide_eq_true c1)
    refine Pv.aload rfl rfl ?_
    refine Pv.aload rfl rfl ?_
    refine Pv.callV (as := [.ref r, .ref 3]) (rest := []) rfl rfl rfl (c_tkm hG hT h4 hi hr (hs) hg hm) ?_
    rintro _ G1 ⟨rfl, hd1x⟩
    have hd1 : RDC F G1 (K (i + 1)) (i + 1) (lkc s.nm 6 m (K (i + 1))) := hd1x
    have gw1 := RCX.G hd1.1 hG
    have tk1 := RCX.TK hd1.1 hT
    have sg1 := (hs).rx hd1.1 hr
    refine (show Pv _ _ 20 [some (.ref r), some (.ref 3), none, none] [.int (tmz s.nm 6 m (K (i + 1)))] G1 Q from ?_)
    refine Pv.istore (lo' := [some (.ref r), some (.ref 3), some (.int (tmz s.nm 6 m (K (i + 1)))), none]) rfl rfl ?_
    refine Pv.iload rfl rfl ?_
    refine Pv.lit rfl ?_
    refine Pv.icmp rfl (fun c2 => ?_) (fun c2 => ?_)
    · skip
      replace c2 : decide (tmz s.nm 6 m (K (i + 1)) = (-1)) = false := by simpa using c2
      replace c2 := of_decide_eq_false c2
      have ela : lkc s.nm 6 m (K (i + 1)) = 0 := Classical.byContradiction fun z => c2 ((tmz_n bm).mpr z)
      have ka := (lkc_y bm ela).1
      have ea := ela
      have ua := tk1.up hi (by rw [ka]; decide) (by rw [ka]; decide)
      have za : G1.1 3 9 = F.1 3 9 := hd1.ok9 ea
      obtain ⟨w1, bw1, f1, l1⟩ := lold_y (s := s) (o := 6) (fun _ => rfl) bm ea
      rw [tmz_y ka f1]
      refine Pv.aload rfl rfl ?_
      refine Pv.aload rfl rfl ?_
      refine Pv.callV (as := [.ref r, .ref 3]) (rest := []) rfl rfl rfl (c_tkm gw1 tk1 hd1.2.1 ua hr (sg1) hg hm) ?_
      rintro _ G2 ⟨rfl, hd2x⟩
      have hd2 : RDC G1 G2 (K (i + 2)) (i + 2) (lkc s.nm 6 m (K (i + 2))) := hd2x
      have gw2 := RCX.G hd2.1 gw1
      have tk2 := RCX.TK hd2.1 tk1
      have sg2 := (sg1).rx hd2.1 hr
      refine (show Pv _ _ 33 [some (.ref r), some (.ref 3), some (.int (Int32.ofNat w1)), none] [.int (tmz s.nm 6 m (K (i + 2)))] G2 Q from ?_)
      refine Pv.istore (lo' := [some (.ref r), some (.ref 3), some (.int (Int32.ofNat w1)), some (.int (tmz s.nm 6 m (K (i + 2))))]) rfl rfl ?_
      refine Pv.iload rfl rfl ?_
      refine Pv.lit rfl ?_
      refine Pv.icmp rfl (fun c3 => ?_) (fun c3 => ?_)
      · skip
        replace c3 : decide (tmz s.nm 6 m (K (i + 2)) = (-1)) = false := by simpa using c3
        replace c3 := of_decide_eq_false c3
        have elb : lkc s.nm 6 m (K (i + 2)) = 0 := Classical.byContradiction fun z => c3 ((tmz_n bm).mpr z)
        have kb := (lkc_y bm elb).1
        have eb := elb
        have ub := tk2.up ua (by rw [kb]; decide) (by rw [kb]; decide)
        have zb : G2.1 3 9 = F.1 3 9 := (hd2.ok9 eb).trans za
        obtain ⟨w2, bw2, f2, l2⟩ := lold_y (s := s) (o := 6) (fun _ => rfl) bm eb
        rw [tmz_y kb f2]
        refine Pv.iload rfl rfl ?_
        refine Pv.iload rfl rfl ?_
        refine Pv.icmp rfl (fun c4 => ?_) (fun c4 => ?_)
        · skip
          replace c4 := (i_eq (a := w1) (b := w2) (by omega) (by omega)).mp (of_decide_eq_true c4)
          have hM : (w1 : Int) = (w2 : Int) ∨ mtold s.h (w1 : Int) (w2 : Int) q = true := Or.inl (by omega)
          refine Pv.aload rfl rfl ?_
          refine Pv.lit rfl ?_
          refine Pv.callVI (as := [.ref 3, .int 3]) (rest := []) (z := 0) rfl rfl rfl (c_fail (c := 3)) ?_
          exact Pv.zret rfl (by rw [hQ]; exact LCQ.fl (c := 3) (j := i + 2) (lnMiss_t (by omega) hm hq l1 l2 hM) (CSX.rx (CSX.rx CSX.rf hd1.1) hd2.1) hd2.2.2.1)
        · skip
          replace c4 := mt (i_eq (a := w1) (b := w2) (by omega) (by omega)).mpr (of_decide_eq_false c4)
          refine Pv.aload rfl rfl ?_
          refine Pv.iload rfl rfl ?_
          refine Pv.iload rfl rfl ?_
          refine Pv.callVI (as := [.ref r, .int (Int32.ofNat w1), .int (Int32.ofNat w2)]) (rest := []) (z := b2i (mtold s.h (w1 : Int) (w2 : Int) q)) rfl rfl rfl (c_imt sg2 hg hm hq (by omega) (by omega)) ?_
          refine Pv.if0 rfl (fun c5 => ?_) (fun c5 => ?_)
          · skip
            replace c5 := of_decide_eq_true c5
            replace c5 := b2z.mp c5
            have hM : ¬ ((w1 : Int) = (w2 : Int) ∨ mtold s.h (w1 : Int) (w2 : Int) q = true) := fun z => z.elim (fun y => absurd y (by omega)) (fun y => absurd (y.symm.trans c5) (by decide))
            refine Pv.aload rfl rfl ?_
            refine Pv.lit rfl ?_
            refine Pv.lit rfl ?_
            refine Pv.callV (as := [.ref 3, .int 0, .int 60]) (rest := []) rfl rfl rfl (c_takeNumber gw2 tk2 hd2.2.1 ub 0 60) ?_
            rintro _ G3 ⟨rfl, hd3x⟩
            have hd3 : RDC G2 G3 (K (i + 3)) (i + 3) (tnN (K (i + 3)) (0 : Int32).toInt (60 : Int32).toInt) := hd3x
            have gw3 := RCX.G hd3.1 gw2
            have tk3 := RCX.TK hd3.1 tk2
            have sg3 := (sg2).rx hd3.1 hr
            refine (show Pv _ _ 68 [some (.ref r), some (.ref 3), some (.int (Int32.ofNat w1)), some (.int (Int32.ofNat w2))] [.int (b2i (decide (tnN (K (i + 3)) (0 : Int32).toInt (60 : Int32).toInt = 0)))] G3 Q from ?_)
            refine Pv.if0 rfl (fun c6 => ?_) (fun c6 => ?_)
            · skip
              replace c6 : decide (b2i (decide (tnN (K (i + 3)) (0 : Int32).toInt (60 : Int32).toInt = 0)) = 0) = false := by simpa using c6
              replace c6 := of_decide_eq_false c6
              replace c6 := b2n.mp c6
              have ed := of_decide_eq_true c6
              have kd := tnN_k ed
              have ud := tk3.up ub (by rw [kd.1]; decide) (by rw [kd.1]; decide)
              have zd : G3.1 3 9 = F.1 3 9 := (hd3.ok9 ed).trans zb
              have vd := hd3.2.2.1.2.2.1 kd.1
              refine Pv.aload rfl rfl ?_
              refine Pv.getR (v := .ref (r + 5)) rfl rfl (sg3.o 4 (by decide)) ?_
              refine Pv.aload rfl rfl ?_
              refine Pv.getI (z := Int32.ofNat q) rfl rfl (sg3.at3 hq) ?_
              refine Pv.iload rfl rfl ?_
              refine Pv.astk (k := q) (z := Int32.ofNat w1) rfl (i_toNat (by omega)) (rfl) ?_
              refine Pv.aload rfl rfl ?_
              refine Pv.getR (v := .ref (r + 6)) rfl rfl (sg3.o 5 (by decide)) ?_
              refine Pv.aload rfl rfl ?_
              refine Pv.getI (z := Int32.ofNat q) rfl rfl ((fp_ne (Or.inl (by omega))).trans (sg3.at3 hq)) ?_
              refine Pv.iload rfl rfl ?_
              refine Pv.astk (k := q) (z := Int32.ofNat w2) rfl (i_toNat (by omega)) (rfl) ?_
              refine Pv.aload rfl rfl ?_
              refine Pv.getR (v := .ref (r + 7)) rfl rfl (sg3.o 6 (by decide)) ?_
              refine Pv.aload rfl rfl ?_
              refine Pv.getI (z := Int32.ofNat q) rfl rfl ((fp_ne (Or.inl (by omega))).trans ((fp_ne (Or.inl (by omega))).trans (sg3.at3 hq))) ?_
              refine Pv.aload rfl rfl ?_
              refine Pv.getI (z := G3.1 3 7) rfl rfl ((fp_ne (Or.inl (by omega))).trans (fp_ne (Or.inl (by omega)))) ?_
              refine Pv.astk (k := q) (z := G3.1 3 7) rfl (i_toNat (by omega)) (rfl) ?_
              refine Pv.aload rfl rfl ?_
              refine Pv.dup rfl ?_
              refine Pv.getI (z := Int32.ofNat q) rfl rfl ((fp_ne (Or.inl (by omega))).trans ((fp_ne (Or.inl (by omega))).trans ((fp_ne (Or.inl (by omega))).trans (sg3.at3 hq)))) ?_
              refine Pv.lit rfl ?_
              refine Pv.bin (z := Int32.ofNat (q + 1)) rfl (i_add q 1) ?_
              refine Pv.putI rfl rfl ?_
              refine Pv.lit rfl ?_
              exact Pv.zret rfl (by rw [hQ]; exact LCQ.ok (lnMiss_z (by omega) hm hq l1 l2 hM ed) (((((CSX.rx (CSX.rx (CSX.rx CSX.rf hd1.1) hd2.1) hd3.1).p (by omega) hr).p (by omega) hr).p (by omega) hr).p (by omega) hr) ((fp_ne (Or.inl (by omega))).trans ((fp_ne (Or.inl (by omega))).trans ((fp_ne (Or.inl (by omega))).trans ((fp_ne (Or.inl (by omega))).trans (hd3.2.1))))) ((fp_ne (Or.inl (by omega))).trans ((fp_ne (Or.inl (by omega))).trans ((fp_ne (Or.inl (by omega))).trans ((fp_ne (Or.inl (by omega))).trans (zd))))) (sg3.miss hq (by omega) (by omega) (by omega) vd) ud)
            · skip
              replace c6 : decide (b2i (decide (tnN (K (i + 3)) (0 : Int32).toInt (60 : Int32).toInt = 0)) = 0) = true := by simpa using c6
              replace c6 := of_decide_eq_true c6
              replace c6 := b2z.mp c6
              refine Pv.lit rfl ?_
              have en := of_decide_eq_false c6
              exact Pv.zret rfl (by rw [hQ]; exact LCQ.bad (lnMiss_n (by omega) hm hq l1 l2 hM en) (CSX.rx (CSX.rx (CSX.rx CSX.rf hd1.1) hd2.1) hd3.1) (congrArg Int32.toInt (hd3.bad9 en)) hd3.2.2.1)
          · skip
            replace c5 := of_decide_eq_false c5
            replace c5 := b2n.mp c5
            have hM : (w1 : Int) = (w2 : Int) ∨ mtold s.h (w1 : Int) (w2 : Int) q = true := Or.inr c5
            refine Pv.aload rfl rfl ?_
            refine Pv.lit rfl ?_
            refine Pv.callVI (as := [.ref 3, .int 3]) (rest := []) (z := 0) rfl rfl rfl (c_fail (c := 3)) ?_
            exact Pv.zret rfl (by rw [hQ]; exact LCQ.fl (c := 3) (j := i + 2) (lnMiss_t (by omega) hm hq l1 l2 hM) (CSX.rx (CSX.rx CSX.rf hd1.1) hd2.1) hd2.2.2.1)
      · skip
        replace c3 : decide (tmz s.nm 6 m (K (i + 2)) = (-1)) = true := by simpa using c3
        replace c3 := of_decide_eq_true c3
        refine Pv.lit rfl ?_
        have en := (tmz_n bm).mp c3
        exact Pv.zret rfl (by rw [hQ]; exact LCQ.bad (by unfold lnMiss; rw [if_neg (by omega), hm]; exact (l1 _).trans (lold_n (fun _ => rfl) bm en)) (CSX.rx (CSX.rx CSX.rf hd1.1) hd2.1) (congrArg Int32.toInt (hd2.bad9 en)) hd2.2.2.1)
    · skip
      replace c2 : decide (tmz s.nm 6 m (K (i + 1)) = (-1)) = true := by simpa using c2
      replace c2 := of_decide_eq_true c2
      refine Pv.lit rfl ?_
      have en := (tmz_n bm).mp c2
      exact Pv.zret rfl (by rw [hQ]; exact LCQ.bad (by unfold lnMiss; rw [if_neg (by omega), hm]; exact lold_n (fun _ => rfl) bm en) (CSX.rx CSX.rf hd1.1) (congrArg Int32.toInt (hd1.bad9 en)) hd1.2.2.1)
  · skip
    replace c1 := mt (i_lt (a := q) (b := 20) (by omega) (by omega)).mpr (of_decide_eq_false c1)
    refine Pv.aload rfl rfl ?_
    refine Pv.lit rfl ?_
    refine Pv.callVI (as := [.ref 3, .int 4]) (rest := []) (z := 0) rfl rfl rfl (c_fail (c := 4)) ?_
    exact Pv.zret rfl (by rw [hQ]; exact LCQ.fl (c := 4) (j := i) (by unfold lnMiss; rw [if_pos (by omega)]; rfl) CSX.rf hcu)
end
-- 63.b9j.sc.lean.txt
section
theorem LCQ.i {F G : FW} {T : Nat → TT} {m r : Nat} {v : Option Value} {x : LR} (h : LCQ F G T m r v x) : ∃ z, v = some (.int z) := by
  obtain ⟨-, h⟩ := h
  cases x with
  | inl y => exact ⟨1, h.1⟩
  | inr y => exact ⟨0, h.1⟩
theorem LCQ.y {F G : FW} {T : Nat → TT} {m r : Nat} {z : Int32} {x : LR} (h : LCQ F G T m r (some (.int z)) x) (hz : ¬ z = 0) : ∃ s j, x = LR.ok s j ∧ CSX r F G ∧ G.1 3 4 = Int32.ofNat j ∧ G.1 3 9 = F.1 3 9 ∧ SCF G r s ∧ j < m := by
  obtain ⟨h0, h⟩ := h
  cases x with
  | inl y => exact ⟨y.1, y.2, rfl, h0, h.2⟩
  | inr y => exact absurd (Value.int.inj (Option.some.inj h.1)) hz
theorem LCQ.n {F G : FW} {T : Nat → TT} {m r : Nat} {z : Int32} {x : LR} (h : LCQ F G T m r (some (.int z)) x) (hz : z = 0) : ∃ f j, x = LR.bad f j ∧ CSX r F G ∧ (G.1 3 9).toInt = f ∧ CURF G (T j) := by
  obtain ⟨h0, h⟩ := h
  cases x with
  | inl y =>
    have e := Value.int.inj (Option.some.inj h.1)
    rw [hz] at e
    exact absurd e (by decide)
  | inr y => exact ⟨y.1, y.2, rfl, h0, h.2⟩
end
-- 63.b9k.lean.txt
section
set_option maxRecDepth 100000 in
set_option maxHeartbeats 4000000 in
theorem c_ramt {F : FW} {K : Nat → TT} {mz i r : Nat} {s : PS} {g m q : Nat} (hG : GW F) (hT : TKF F K mz) (h4 : F.1 3 4 = Int32.ofNat (i + 1)) (hi : i + 1 < mz) (hr : 40 ≤ r) (hs : SCF F r s) (hg : s.h 0 = (g : Int)) (hm : s.h 1 = (m : Int)) (hq : s.h 3 = (q : Int)) (hcu : CURF F (K i)) {so : Nat} (hso : so < 4) : Pm Z_X7_readAmount [.ref r, .ref 3, .int (Int32.ofNat so)] F (fun r' F' => LCQ F F' K mz r r' (lnAmt K s i so)) := by
  refine Pm.of fun N => ?_
  obtain ⟨Q, hQ⟩ : ∃ Q : Option Value → FW → Prop, Q = (fun r' F' => LCQ F F' K mz r r' (lnAmt K s i so)) := ⟨_, rfl⟩
  rw [← hQ]
  have bb := hs.b
  unfold PSB at bb
  have bg : g ≤ 6 := by omega
  have bm : m ≤ 8 := by omega
  have bq : q ≤ 20 := by omega
  refine (show Pv (ab_T (L_X7_readAmount Z_X7_takeGood Z_X9_takeNumber Z_X10_slotOf Z_X9_fail)) N 0 [some (.ref r), some (.ref 3), some (.int (Int32.ofNat so)), none, none, none] [] F Q from ?_)
  refine Pv.aload rfl rfl ?_
  refine Pv.aload rfl rfl ?_
  refine Pv.callV (as := [.ref r, .ref 3]) (rest := []) rfl rfl rfl (c_tkg hG hT h4 hi hr (hs) hg hm) ?_
  rintro _ G1 ⟨rfl, hd1x⟩
  have hd1 : RDC F G1 (K (i + 1)) (i + 1) (lkc s.nm 0 g (K (i + 1))) := hd1x
  have gw1 := RCX.G hd1.1 hG
  have tk1 := RCX.TK hd1.1 hT
  have sg1 := (hs).rx hd1.1 hr
  refine (show Pv _ _ 5 [some (.ref r), some (.ref 3), some (.int (Int32.ofNat so)), none, none, none] [.int (tmz s.nm 0 g (K (i + 1)))] G1 Q from ?_)
  refine Pv.istore (lo' := [some (.ref r), some (.ref 3), some (.int (Int32.ofNat so)), some (.int (tmz s.nm 0 g (K (i + 1)))), none, none]) rfl rfl ?_
  refine Pv.iload rfl rfl ?_
  refine Pv.lit rfl ?_
  refine Pv.icmp rfl (fun c1 => ?_) (fun c1 => ?_)
  · skip
    replace c1 := of_decide_eq_true c1
    refine Pv.lit rfl ?_
    have en := (tmz_n (by omega)).mp c1
    exact Pv.zret rfl (by rw [hQ]; exact LCQ.bad (by unfold lnAmt; rw [hg]; exact lold_n (fun _ => rfl) (by omega) en) (CSX.rx CSX.rf hd1.1) (congrArg Int32.toInt (hd1.bad9 en)) hd1.2.2.1)
  · skip
    replace c1 := of_decide_eq_false c1
    have ela : lkc s.nm 0 g (K (i + 1)) = 0 := Classical.byContradiction fun z => c1 ((tmz_n (by omega)).mpr z)
    have ka := (lkc_y (by omega) ela).1
    have ea := ela
    have ua := tk1.up hi (by rw [ka]; decide) (by rw [ka]; decide)
    have za : G1.1 3 9 = F.1 3 9 := hd1.ok9 ea
    obtain ⟨w1, ba, f1, l1⟩ := lold_y (s := s) (o := 0) (fun _ => rfl) (by omega) ea
    rw [tmz_y ka f1]
    refine Pv.aload rfl rfl ?_
    refine Pv.lit rfl ?_
    refine Pv.lit rfl ?_
    refine Pv.callV (as := [.ref 3, .int 0, .int 1]) (rest := []) rfl rfl rfl (c_takeNumber gw1 tk1 hd1.2.1 ua 0 1) ?_
    rintro _ G2 ⟨rfl, hd2x⟩
    have hd2 : RDC G1 G2 (K (i + 2)) (i + 2) (tnN (K (i + 2)) (0 : Int32).toInt (1 : Int32).toInt) := hd2x
    have gw2 := RCX.G hd2.1 gw1
    have tk2 := RCX.TK hd2.1 tk1
    have sg2 := (sg1).rx hd2.1 hr
    refine (show Pv _ _ 17 [some (.ref r), some (.ref 3), some (.int (Int32.ofNat so)), some (.int (Int32.ofNat w1)), none, none] [.int (b2i (decide (tnN (K (i + 2)) (0 : Int32).toInt (1 : Int32).toInt = 0)))] G2 Q from ?_)
    refine Pv.if0 rfl (fun c2 => ?_) (fun c2 => ?_)
    · skip
      replace c2 : decide (b2i (decide (tnN (K (i + 2)) (0 : Int32).toInt (1 : Int32).toInt = 0)) = 0) = false := by simpa using c2
      replace c2 := of_decide_eq_false c2
      replace c2 := b2n.mp c2
      have eb := of_decide_eq_true c2
      have kb := tnN_k eb
      have ub := tk2.up ua (by rw [kb.1]; decide) (by rw [kb.1]; decide)
      have zb : G2.1 3 9 = F.1 3 9 := (hd2.ok9 eb).trans za
      have vb := hd2.2.2.1.2.2.1 kb.1
      have kb1 : 0 ≤ (K (i + 2)).v := kb.2.1
      have kb2 : (K (i + 2)).v ≤ 1 := kb.2.2
      obtain ⟨d, hd⟩ : ∃ d : Nat, (K (i + 2)).v = (d : Int) := ⟨(K (i + 2)).v.toNat, by omega⟩
      have d1 : d ≤ 1 := by omega
      have e7 : G2.1 3 7 = Int32.ofNat d := by have := i_ofv vb kb1; rw [this, hd]; rfl
      refine Pv.iload rfl rfl ?_
      refine Pv.lit rfl ?_
      refine Pv.bin (z := Int32.ofNat (so * 12)) rfl (i_mul so 12) ?_
      refine Pv.iload rfl rfl ?_
      refine Pv.aload rfl rfl ?_
      refine Pv.getI (z := Int32.ofNat d) rfl rfl (e7) ?_
      refine Pv.callI (as := [.int (Int32.ofNat w1), .int (Int32.ofNat d)]) (rest := [.int (Int32.ofNat (so * 12))]) (z := Int32.ofNat ((2 * w1) + d)) rfl rfl rfl (f_slotOf (g := w1) (s := d)) ?_
      refine Pv.bin (z := Int32.ofNat ((so * 12) + ((2 * w1) + d))) rfl (i_add (so * 12) ((2 * w1) + d)) ?_
      refine Pv.istore (lo' := [some (.ref r), some (.ref 3), some (.int (Int32.ofNat so)), some (.int (Int32.ofNat w1)), some (.int (Int32.ofNat ((so * 12) + ((2 * w1) + d)))), none]) rfl rfl ?_
      refine Pv.aload rfl rfl ?_
      refine Pv.getL (z := G2.2.2.1 r 12) rfl rfl (rfl) ?_
      refine Pv.lit rfl ?_
      refine Pv.iload rfl rfl ?_
      refine Pv.lsh (z := 1 <<< (Int32.toInt64 (Int32.ofNat ((so * 12) + ((2 * w1) + d))) &&& 63)) rfl (rfl) ?_
      refine Pv.lbin (z := (G2.2.2.1 r 12) &&& (1 <<< (Int32.toInt64 (Int32.ofNat ((so * 12) + ((2 * w1) + d))) &&& 63))) rfl (rfl) ?_
      refine Pv.lit rfl ?_
      refine Pv.lcmp (z := lg_cmp ((G2.2.2.1 r 12) &&& (1 <<< (Int32.toInt64 (Int32.ofNat ((so * 12) + ((2 * w1) + d))) &&& 63))) 0) rfl (rfl) ?_
      refine Pv.if0 rfl (fun c3 => ?_) (fun c3 => ?_)
      · skip
        replace c3 := of_decide_eq_true c3
        have ht : ¬ s.tl (12 * so + (2 * w1 + d)) = true := by have z := (lb_and (A := G2.2.2.1 r 12) (y := Int32.ofNat ((so * 12) + ((2 * w1) + d))) (i := ((so * 12) + ((2 * w1) + d))) (i_toInt (by omega)) (by omega)).mp (lcmp_0.mp c3); rw [sg2.tl (by omega), show ((so * 12) + ((2 * w1) + d)) = 12 * so + (2 * w1 + d) by omega] at z; rw [z]; decide
        refine Pv.iload rfl rfl ?_
        refine Pv.lit rfl ?_
        refine Pv.icmp rfl (fun c4 => ?_) (fun c4 => ?_)
        · skip
          replace c4 := (i_eq (a := so) (b := 2) (by omega) (by omega)).mp (of_decide_eq_true c4)
          refine Pv.lit rfl ?_
          refine Pv.goto rfl ?_
          refine Pv.istore (lo' := [some (.ref r), some (.ref 3), some (.int (Int32.ofNat so)), some (.int (Int32.ofNat w1)), some (.int (Int32.ofNat ((so * 12) + ((2 * w1) + d)))), some (.int 1)]) rfl rfl ?_
          refine Pv.aload rfl rfl ?_
          refine Pv.lit rfl ?_
          refine Pv.iload rfl rfl ?_
          refine Pv.if0 rfl (fun c5 => ?_) (fun c5 => ?_)
          · skip
            replace c5 := (i_eq (a := 1) (b := 0) (by omega) (by omega)).mp (of_decide_eq_true c5)
            omega
          · skip
            replace c5 := mt (i_eq (a := 1) (b := 0) (by omega) (by omega)).mpr (of_decide_eq_false c5)
            refine Pv.lit rfl ?_
            refine Pv.goto rfl ?_
            refine Pv.callV (as := [.ref 3, .int 0, .int 20]) (rest := []) rfl rfl rfl (c_takeNumber gw2 tk2 hd2.2.1 ub 0 20) ?_
            rintro _ G3 ⟨rfl, hd3x⟩
            have hd3 : RDC G2 G3 (K (i + 3)) (i + 3) (tnN (K (i + 3)) (0 : Int32).toInt (20 : Int32).toInt) := hd3x
            have gw3 := RCX.G hd3.1 gw2
            have tk3 := RCX.TK hd3.1 tk2
            have sg3 := (sg2).rx hd3.1 hr
            refine (show Pv _ _ 92 [some (.ref r), some (.ref 3), some (.int (Int32.ofNat so)), some (.int (Int32.ofNat w1)), some (.int (Int32.ofNat ((so * 12) + ((2 * w1) + d)))), some (.int 1)] [.int (b2i (decide (tnN (K (i + 3)) (0 : Int32).toInt (20 : Int32).toInt = 0)))] G3 Q from ?_)
            refine Pv.if0 rfl (fun c6 => ?_) (fun c6 => ?_)
            · skip
              replace c6 : decide (b2i (decide (tnN (K (i + 3)) (0 : Int32).toInt (20 : Int32).toInt = 0)) = 0) = false := by simpa using c6
              replace c6 := of_decide_eq_false c6
              replace c6 := b2n.mp c6
              have ec := of_decide_eq_true c6
              have kc := tnN_k ec
              have uc := tk3.up ub (by rw [kc.1]; decide) (by rw [kc.1]; decide)
              have zc : G3.1 3 9 = F.1 3 9 := (hd3.ok9 ec).trans zb
              have vc := hd3.2.2.1.2.2.1 kc.1
              refine Pv.aload rfl rfl ?_
              refine Pv.dup rfl ?_
              refine Pv.getL (z := G3.2.2.1 r 12) rfl rfl (rfl) ?_
              refine Pv.lit rfl ?_
              refine Pv.iload rfl rfl ?_
              refine Pv.lsh (z := 1 <<< (Int32.toInt64 (Int32.ofNat ((so * 12) + ((2 * w1) + d))) &&& 63)) rfl (rfl) ?_
              refine Pv.lbin (z := (G3.2.2.1 r 12) ||| (1 <<< (Int32.toInt64 (Int32.ofNat ((so * 12) + ((2 * w1) + d))) &&& 63))) rfl (rfl) ?_
              refine Pv.putL rfl rfl ?_
              refine Pv.aload rfl rfl ?_
              refine Pv.getR (v := .ref (r + 4)) rfl rfl (sg3.o 3 (by decide)) ?_
              refine Pv.iload rfl rfl ?_
              refine Pv.aload rfl rfl ?_
              refine Pv.getI (z := G3.1 3 7) rfl rfl (fpl_i) ?_
              refine Pv.astk (k := (so * 12) + ((2 * w1) + d)) (z := G3.1 3 7) rfl (i_toNat (by omega)) (rfl) ?_
              refine Pv.lit rfl ?_
              exact Pv.zret rfl (by rw [hQ]; exact LCQ.ok (((lnAmt_p (b := 20) hg l1 kb.1 hd d1 ht (if_pos (by omega)) rfl).trans (lnum_y ec)).trans (by rw [show 12 * so + (2 * w1 + d) = ((so * 12) + ((2 * w1) + d)) by omega])) (((CSX.rx (CSX.rx (CSX.rx CSX.rf hd1.1) hd2.1) hd3.1).pl (by omega) hr).p (by omega) hr) ((fp_ne (Or.inl (by omega))).trans ((fpl_i).trans (hd3.2.1))) ((fp_ne (Or.inl (by omega))).trans ((fpl_i).trans (zc))) (sg3.amt (x := ((so * 12) + ((2 * w1) + d))) (by omega) (fun k hk => lb_or (i_toInt (by omega)) (by omega) hk) vc) uc)
            · skip
              replace c6 : decide (b2i (decide (tnN (K (i + 3)) (0 : Int32).toInt (20 : Int32).toInt = 0)) = 0) = true := by simpa using c6
              replace c6 := of_decide_eq_true c6
              replace c6 := b2z.mp c6
              refine Pv.lit rfl ?_
              have en := of_decide_eq_false c6
              exact Pv.zret rfl (by rw [hQ]; exact LCQ.bad ((lnAmt_p (b := 20) hg l1 kb.1 hd d1 ht (if_pos (by omega)) rfl).trans (lnum_n en)) (CSX.rx (CSX.rx (CSX.rx CSX.rf hd1.1) hd2.1) hd3.1) (congrArg Int32.toInt (hd3.bad9 en)) hd3.2.2.1)
        · skip
          replace c4 := mt (i_eq (a := so) (b := 2) (by omega) (by omega)).mpr (of_decide_eq_false c4)
          refine Pv.iload rfl rfl ?_
          refine Pv.lit rfl ?_
          refine Pv.icmp rfl (fun c7 => ?_) (fun c7 => ?_)
          · skip
            replace c7 : decide (Int32.ofNat so = 3) = false := by simpa using c7
            replace c7 := mt (i_eq (a := so) (b := 3) (by omega) (by omega)).mpr (of_decide_eq_false c7)
            refine Pv.lit rfl ?_
            refine Pv.istore (lo' := [some (.ref r), some (.ref 3), some (.int (Int32.ofNat so)), some (.int (Int32.ofNat w1)), some (.int (Int32.ofNat ((so * 12) + ((2 * w1) + d)))), some (.int 0)]) rfl rfl ?_
            refine Pv.aload rfl rfl ?_
            refine Pv.lit rfl ?_
            refine Pv.iload rfl rfl ?_
            refine Pv.if0 rfl (fun c8 => ?_) (fun c8 => ?_)
            · skip
              replace c8 := (i_eq (a := 0) (b := 0) (by omega) (by omega)).mp (of_decide_eq_true c8)
              refine Pv.lit rfl ?_
              refine Pv.callV (as := [.ref 3, .int 0, .int 250]) (rest := []) rfl rfl rfl (c_takeNumber gw2 tk2 hd2.2.1 ub 0 250) ?_
              rintro _ G3 ⟨rfl, hd3x⟩
              have hd3 : RDC G2 G3 (K (i + 3)) (i + 3) (tnN (K (i + 3)) (0 : Int32).toInt (250 : Int32).toInt) := hd3x
              have gw3 := RCX.G hd3.1 gw2
              have tk3 := RCX.TK hd3.1 tk2
              have sg3 := (sg2).rx hd3.1 hr
              refine (show Pv _ _ 92 [some (.ref r), some (.ref 3), some (.int (Int32.ofNat so)), some (.int (Int32.ofNat w1)), some (.int (Int32.ofNat ((so * 12) + ((2 * w1) + d)))), some (.int 0)] [.int (b2i (decide (tnN (K (i + 3)) (0 : Int32).toInt (250 : Int32).toInt = 0)))] G3 Q from ?_)
              refine Pv.if0 rfl (fun c9 => ?_) (fun c9 => ?_)
              · skip
                replace c9 : decide (b2i (decide (tnN (K (i + 3)) (0 : Int32).toInt (250 : Int32).toInt = 0)) = 0) = false := by simpa using c9
                replace c9 := of_decide_eq_false c9
                replace c9 := b2n.mp c9
                have ec := of_decide_eq_true c9
                have kc := tnN_k ec
                have uc := tk3.up ub (by rw [kc.1]; decide) (by rw [kc.1]; decide)
                have zc : G3.1 3 9 = F.1 3 9 := (hd3.ok9 ec).trans zb
                have vc := hd3.2.2.1.2.2.1 kc.1
                refine Pv.aload rfl rfl ?_
                refine Pv.dup rfl ?_
                refine Pv.getL (z := G3.2.2.1 r 12) rfl rfl (rfl) ?_
                refine Pv.lit rfl ?_
                refine Pv.iload rfl rfl ?_
                refine Pv.lsh (z := 1 <<< (Int32.toInt64 (Int32.ofNat ((so * 12) + ((2 * w1) + d))) &&& 63)) rfl (rfl) ?_
                refine Pv.lbin (z := (G3.2.2.1 r 12) ||| (1 <<< (Int32.toInt64 (Int32.ofNat ((so * 12) + ((2 * w1) + d))) &&& 63))) rfl (rfl) ?_
                refine Pv.putL rfl rfl ?_
                refine Pv.aload rfl rfl ?_
                refine Pv.getR (v := .ref (r + 4)) rfl rfl (sg3.o 3 (by decide)) ?_
                refine Pv.iload rfl rfl ?_
                refine Pv.aload rfl rfl ?_
                refine Pv.getI (z := G3.1 3 7) rfl rfl (fpl_i) ?_
                refine Pv.astk (k := (so * 12) + ((2 * w1) + d)) (z := G3.1 3 7) rfl (i_toNat (by omega)) (rfl) ?_
                refine Pv.lit rfl ?_
                exact Pv.zret rfl (by rw [hQ]; exact LCQ.ok (((lnAmt_p (b := 250) hg l1 kb.1 hd d1 ht (if_neg (by omega)) rfl).trans (lnum_y ec)).trans (by rw [show 12 * so + (2 * w1 + d) = ((so * 12) + ((2 * w1) + d)) by omega])) (((CSX.rx (CSX.rx (CSX.rx CSX.rf hd1.1) hd2.1) hd3.1).pl (by omega) hr).p (by omega) hr) ((fp_ne (Or.inl (by omega))).trans ((fpl_i).trans (hd3.2.1))) ((fp_ne (Or.inl (by omega))).trans ((fpl_i).trans (zc))) (sg3.amt (x := ((so * 12) + ((2 * w1) + d))) (by omega) (fun k hk => lb_or (i_toInt (by omega)) (by omega) hk) vc) uc)
              · skip
                replace c9 : decide (b2i (decide (tnN (K (i + 3)) (0 : Int32).toInt (250 : Int32).toInt = 0)) = 0) = true := by simpa using c9
                replace c9 := of_decide_eq_true c9
                replace c9 := b2z.mp c9
                refine Pv.lit rfl ?_
                have en := of_decide_eq_false c9
                exact Pv.zret rfl (by rw [hQ]; exact LCQ.bad ((lnAmt_p (b := 250) hg l1 kb.1 hd d1 ht (if_neg (by omega)) rfl).trans (lnum_n en)) (CSX.rx (CSX.rx (CSX.rx CSX.rf hd1.1) hd2.1) hd3.1) (congrArg Int32.toInt (hd3.bad9 en)) hd3.2.2.1)
            · skip
              replace c8 := mt (i_eq (a := 0) (b := 0) (by omega) (by omega)).mpr (of_decide_eq_false c8)
              omega
          · skip
            replace c7 : decide (Int32.ofNat so = 3) = true := by simpa using c7
            replace c7 := (i_eq (a := so) (b := 3) (by omega) (by omega)).mp (of_decide_eq_true c7)
            refine Pv.lit rfl ?_
            refine Pv.goto rfl ?_
            refine Pv.istore (lo' := [some (.ref r), some (.ref 3), some (.int (Int32.ofNat so)), some (.int (Int32.ofNat w1)), some (.int (Int32.ofNat ((so * 12) + ((2 * w1) + d)))), some (.int 1)]) rfl rfl ?_
            refine Pv.aload rfl rfl ?_
            refine Pv.lit rfl ?_
            refine Pv.iload rfl rfl ?_
            refine Pv.if0 rfl (fun c10 => ?_) (fun c10 => ?_)
            · skip
              replace c10 := (i_eq (a := 1) (b := 0) (by omega) (by omega)).mp (of_decide_eq_true c10)
              omega
            · skip
              replace c10 := mt (i_eq (a := 1) (b := 0) (by omega) (by omega)).mpr (of_decide_eq_false c10)
              refine Pv.lit rfl ?_
              refine Pv.goto rfl ?_
              refine Pv.callV (as := [.ref 3, .int 0, .int 20]) (rest := []) rfl rfl rfl (c_takeNumber gw2 tk2 hd2.2.1 ub 0 20) ?_
              rintro _ G3 ⟨rfl, hd3x⟩
              have hd3 : RDC G2 G3 (K (i + 3)) (i + 3) (tnN (K (i + 3)) (0 : Int32).toInt (20 : Int32).toInt) := hd3x
              have gw3 := RCX.G hd3.1 gw2
              have tk3 := RCX.TK hd3.1 tk2
              have sg3 := (sg2).rx hd3.1 hr
              refine (show Pv _ _ 92 [some (.ref r), some (.ref 3), some (.int (Int32.ofNat so)), some (.int (Int32.ofNat w1)), some (.int (Int32.ofNat ((so * 12) + ((2 * w1) + d)))), some (.int 1)] [.int (b2i (decide (tnN (K (i + 3)) (0 : Int32).toInt (20 : Int32).toInt = 0)))] G3 Q from ?_)
              refine Pv.if0 rfl (fun c11 => ?_) (fun c11 => ?_)
              · skip
                replace c11 : decide (b2i (decide (tnN (K (i + 3)) (0 : Int32).toInt (20 : Int32).toInt = 0)) = 0) = false := by simpa using c11
                replace c11 := of_decide_eq_false c11
                replace c11 := b2n.mp c11
                have ec := of_decide_eq_true c11
                have kc := tnN_k ec
                have uc := tk3.up ub (by rw [kc.1]; decide) (by rw [kc.1]; decide)
                have zc : G3.1 3 9 = F.1 3 9 := (hd3.ok9 ec).trans zb
                have vc := hd3.2.2.1.2.2.1 kc.1
                refine Pv.aload rfl rfl ?_
                refine Pv.dup rfl ?_
                refine Pv.getL (z := G3.2.2.1 r 12) rfl rfl (rfl) ?_
                refine Pv.lit rfl ?_
                refine Pv.iload rfl rfl ?_
                refine Pv.lsh (z := 1 <<< (Int32.toInt64 (Int32.ofNat ((so * 12) + ((2 * w1) + d))) &&& 63)) rfl (rfl) ?_
                refine Pv.lbin (z := (G3.2.2.1 r 12) ||| (1 <<< (Int32.toInt64 (Int32.ofNat ((so * 12) + ((2 * w1) + d))) &&& 63))) rfl (rfl) ?_
                refine Pv.putL rfl rfl ?_
                refine Pv.aload rfl rfl ?_
                refine Pv.getR (v := .ref (r + 4)) rfl rfl (sg3.o 3 (by decide)) ?_
                refine Pv.iload rfl rfl ?_
                refine Pv.aload rfl rfl ?_
                refine Pv.getI (z := G3.1 3 7) rfl rfl (fpl_i) ?_
                refine Pv.astk (k := (so * 12) + ((2 * w1) + d)) (z := G3.1 3 7) rfl (i_toNat (by omega)) (rfl) ?_
                refine Pv.lit rfl ?_
                exact Pv.zret rfl (by rw [hQ]; exact LCQ.ok (((lnAmt_p (b := 20) hg l1 kb.1 hd d1 ht (if_pos (by omega)) rfl).trans (lnum_y ec)).trans (by rw [show 12 * so + (2 * w1 + d) = ((so * 12) + ((2 * w1) + d)) by omega])) (((CSX.rx (CSX.rx (CSX.rx CSX.rf hd1.1) hd2.1) hd3.1).pl (by omega) hr).p (by omega) hr) ((fp_ne (Or.inl (by omega))).trans ((fpl_i).trans (hd3.2.1))) ((fp_ne (Or.inl (by omega))).trans ((fpl_i).trans (zc))) (sg3.amt (x := ((so * 12) + ((2 * w1) + d))) (by omega) (fun k hk => lb_or (i_toInt (by omega)) (by omega) hk) vc) uc)
              · skip
                replace c11 : decide (b2i (decide (tnN (K (i + 3)) (0 : Int32).toInt (20 : Int32).toInt = 0)) = 0) = true := by simpa using c11
                replace c11 := of_decide_eq_true c11
                replace c11 := b2z.mp c11
                refine Pv.lit rfl ?_
                have en := of_decide_eq_false c11
                exact Pv.zret rfl (by rw [hQ]; exact LCQ.bad ((lnAmt_p (b := 20) hg l1 kb.1 hd d1 ht (if_pos (by omega)) rfl).trans (lnum_n en)) (CSX.rx (CSX.rx (CSX.rx CSX.rf hd1.1) hd2.1) hd3.1) (congrArg Int32.toInt (hd3.bad9 en)) hd3.2.2.1)
      · skip
        replace c3 := of_decide_eq_false c3
        have ht : s.tl (12 * so + (2 * w1 + d)) = true := by have z := mt (lb_and (A := G2.2.2.1 r 12) (y := Int32.ofNat ((so * 12) + ((2 * w1) + d))) (i := ((so * 12) + ((2 * w1) + d))) (i_toInt (by omega)) (by omega)).mpr (mt lcmp_0.mpr c3); rw [sg2.tl (by omega), show ((so * 12) + ((2 * w1) + d)) = 12 * so + (2 * w1 + d) by omega] at z; exact Bool.not_eq_false _ |>.mp z
        refine Pv.aload rfl rfl ?_
        refine Pv.lit rfl ?_
        refine Pv.callVI (as := [.ref 3, .int 3]) (rest := []) (z := 0) rfl rfl rfl (c_fail (c := 3)) ?_
        exact Pv.zret rfl (by rw [hQ]; exact LCQ.fl (c := 3) (j := i + 2) (lnAmt_t hg l1 kb.1 hd d1 ht) (CSX.rx (CSX.rx CSX.rf hd1.1) hd2.1) hd2.2.2.1)
    · skip
      replace c2 : decide (b2i (decide (tnN (K (i + 2)) (0 : Int32).toInt (1 : Int32).toInt = 0)) = 0) = true := by simpa using c2
      replace c2 := of_decide_eq_true c2
      replace c2 := b2z.mp c2
      refine Pv.lit rfl ?_
      have en := of_decide_eq_false c2
      exact Pv.zret rfl (by rw [hQ]; exact LCQ.bad (by unfold lnAmt; rw [hg]; exact (l1 _).trans (lnum_n en)) (CSX.rx (CSX.rx CSX.rf hd1.1) hd2.1) (congrArg Int32.toInt (hd2.bad9 en)) hd2.2.2.1)
end
-- 63.b9l.lean.txt
section
set_option maxRecDepth 100000 in
set_option maxHeartbeats 4000000 in
theorem c_rline {F : FW} {K : Nat → TT} {mz i r : Nat} {s : PS} {g m q : Nat} (hG : GW F) (hT : TKF F K mz) (h4 : F.1 3 4 = Int32.ofNat (i + 1)) (hi : i < mz) (h0 : (K i).k ≠ 0) (hr : 40 ≤ r) (hs : SCF F r s) (hg : s.h 0 = (g : Int)) (hm : s.h 1 = (m : Int)) (hq : s.h 3 = (q : Int)) (hcu : CURF F (K i)) : Pm Z_X7_readLine [.ref r, .ref 3] F (fun r' F' => LCQ F F' K mz r r' (lnx K s i)) := by
  refine Pm.of fun N => ?_
  obtain ⟨Q, hQ⟩ : ∃ Q : Option Value → FW → Prop, Q = (fun r' F' => LCQ F F' K mz r r' (lnx K s i)) := ⟨_, rfl⟩
  rw [← hQ]
  have bb := hs.b
  unfold PSB at bb
  have bg : g ≤ 6 := by omega
  have bm : m ≤ 8 := by omega
  have bq : q ≤ 20 := by omega
  have hk := hcu.1
  refine (show Pv (ab_T (L_X7_readLine Z_X7_readAmount Z_X7_readLoad Z_X7_readGood Z_X7_readMan Z_X7_readMisses Z_X9_fail)) N 0 [some (.ref r), some (.ref 3)] [] F Q from ?_)
  refine Pv.aload rfl rfl ?_
  refine Pv.getI (z := F.1 3 5) rfl rfl (rfl) ?_
  refine Pv.lit rfl ?_
  refine Pv.icmp rfl (fun c1 => ?_) (fun c1 => ?_)
  · skip
    replace c1 := of_decide_eq_true c1
    have z66 : (66 : Int32).toInt = 66 := rfl
    have z69 : (69 : Int32).toInt = 69 := rfl
    have kb := Int32.lt_iff_toInt_lt.mp c1
    rw [hk] at kb
    rcases (show (K i).k = 64 ∨ (K i).k = 65 ∨ (K i).k = 70 ∨ (K i).k = 71 ∨ ((K i).k < 64 ∨ 71 < (K i).k) by omega) with ek | ek | ek | ek | ek
    · skip
      have ku := hT.up hi (by omega) (by omega)
      refine Pv.aload rfl rfl ?_
      refine Pv.getI (z := F.1 3 5) rfl rfl (rfl) ?_
      refine Pv.tab (t := 80) rfl (by rw [hk.trans ek]; rfl) ?_
      refine Pv.aload rfl rfl ?_
      refine Pv.aload rfl rfl ?_
      refine Pv.callV (as := [.ref r, .ref 3]) (rest := []) rfl rfl rfl (c_rload hG hT h4 ku hr hs hg hm hq hcu) ?_
      rintro r0 G hl
      obtain ⟨z, rfl⟩ : ∃ z, r0 = some (.int z) := LCQ.i hl
      refine (show Pv _ _ 85 [some (.ref r), some (.ref 3)] [.int z] G Q from ?_)
      exact Pv.zret rfl (by rw [hQ]; exact by rw [lnx_l ek]; exact hl)
    · skip
      have ku := hT.up hi (by omega) (by omega)
      refine Pv.aload rfl rfl ?_
      refine Pv.getI (z := F.1 3 5) rfl rfl (rfl) ?_
      refine Pv.tab (t := 86) rfl (by rw [hk.trans ek]; rfl) ?_
      refine Pv.aload rfl rfl ?_
      refine Pv.aload rfl rfl ?_
      refine Pv.callV (as := [.ref r, .ref 3]) (rest := []) rfl rfl rfl (c_rgood hG hT h4 ku hr hs hg hm hq hcu) ?_
      rintro r0 G hl
      obtain ⟨z, rfl⟩ : ∃ z, r0 = some (.int z) := LCQ.i hl
      refine (show Pv _ _ 91 [some (.ref r), some (.ref 3)] [.int z] G Q from ?_)
      exact Pv.zret rfl (by rw [hQ]; exact by rw [lnx_g ek]; exact hl)
    · skip
      have ku := hT.up hi (by omega) (by omega)
      refine Pv.aload rfl rfl ?_
      refine Pv.getI (z := F.1 3 5) rfl rfl (rfl) ?_
      refine Pv.tab (t := 92) rfl (by rw [hk.trans ek]; rfl) ?_
      refine Pv.aload rfl rfl ?_
      refine Pv.aload rfl rfl ?_
      refine Pv.callV (as := [.ref r, .ref 3]) (rest := []) rfl rfl rfl (c_rman hG hT h4 ku hr hs hg hm hq hcu) ?_
      rintro r0 G hl
      obtain ⟨z, rfl⟩ : ∃ z, r0 = some (.int z) := LCQ.i hl
      refine (show Pv _ _ 97 [some (.ref r), some (.ref 3)] [.int z] G Q from ?_)
      exact Pv.zret rfl (by rw [hQ]; exact by rw [lnx_m ek]; exact hl)
    · skip
      have ku := hT.up hi (by omega) (by omega)
      refine Pv.aload rfl rfl ?_
      refine Pv.getI (z := F.1 3 5) rfl rfl (rfl) ?_
      refine Pv.tab (t := 98) rfl (by rw [hk.trans ek]; rfl) ?_
      refine Pv.aload rfl rfl ?_
      refine Pv.aload rfl rfl ?_
      refine Pv.callV (as := [.ref r, .ref 3]) (rest := []) rfl rfl rfl (c_rmiss hG hT h4 ku hr hs hg hm hq hcu) ?_
      rintro r0 G hl
      obtain ⟨z, rfl⟩ : ∃ z, r0 = some (.int z) := LCQ.i hl
      refine (show Pv _ _ 103 [some (.ref r), some (.ref 3)] [.int z] G Q from ?_)
      exact Pv.zret rfl (by rw [hQ]; exact by rw [lnx_s ek]; exact hl)
    · skip
      refine Pv.aload rfl rfl ?_
      refine Pv.getI (z := F.1 3 5) rfl rfl (rfl) ?_
      refine Pv.tab (t := 104) rfl (tab8 (by rw [hk]; exact ek)) ?_
      refine Pv.aload rfl rfl ?_
      refine Pv.lit rfl ?_
      refine Pv.callVI (as := [.ref 3, .int 1]) (rest := []) (z := 0) rfl rfl rfl (c_fail (c := 1)) ?_
      exact Pv.zret rfl (by rw [hQ]; exact LCQ.fl (c := 1) (j := i) (lnx_n ek) CSX.rf hcu)
  · skip
    replace c1 := of_decide_eq_false c1
    refine Pv.aload rfl rfl ?_
    refine Pv.getI (z := F.1 3 5) rfl rfl (rfl) ?_
    refine Pv.lit rfl ?_
    refine Pv.icmp rfl (fun c2 => ?_) (fun c2 => ?_)
    · skip
      replace c2 := of_decide_eq_true c2
      have z66 : (66 : Int32).toInt = 66 := rfl
      have z69 : (69 : Int32).toInt = 69 := rfl
      have kb := Int32.lt_iff_toInt_lt.mp c2
      rw [hk] at kb
      rcases (show (K i).k = 64 ∨ (K i).k = 65 ∨ (K i).k = 70 ∨ (K i).k = 71 ∨ ((K i).k < 64 ∨ 71 < (K i).k) by omega) with ek | ek | ek | ek | ek
      · skip
        have ku := hT.up hi (by omega) (by omega)
        refine Pv.aload rfl rfl ?_
        refine Pv.getI (z := F.1 3 5) rfl rfl (rfl) ?_
        refine Pv.tab (t := 80) rfl (by rw [hk.trans ek]; rfl) ?_
        refine Pv.aload rfl rfl ?_
        refine Pv.aload rfl rfl ?_
        refine Pv.callV (as := [.ref r, .ref 3]) (rest := []) rfl rfl rfl (c_rload hG hT h4 ku hr hs hg hm hq hcu) ?_
        rintro r0 G hl
        obtain ⟨z, rfl⟩ : ∃ z, r0 = some (.int z) := LCQ.i hl
        refine (show Pv _ _ 85 [some (.ref r), some (.ref 3)] [.int z] G Q from ?_)
        exact Pv.zret rfl (by rw [hQ]; exact by rw [lnx_l ek]; exact hl)
      · skip
        have ku := hT.up hi (by omega) (by omega)
        refine Pv.aload rfl rfl ?_
        refine Pv.getI (z := F.1 3 5) rfl rfl (rfl) ?_
        refine Pv.tab (t := 86) rfl (by rw [hk.trans ek]; rfl) ?_
        refine Pv.aload rfl rfl ?_
        refine Pv.aload rfl rfl ?_
        refine Pv.callV (as := [.ref r, .ref 3]) (rest := []) rfl rfl rfl (c_rgood hG hT h4 ku hr hs hg hm hq hcu) ?_
        rintro r0 G hl
        obtain ⟨z, rfl⟩ : ∃ z, r0 = some (.int z) := LCQ.i hl
        refine (show Pv _ _ 91 [some (.ref r), some (.ref 3)] [.int z] G Q from ?_)
        exact Pv.zret rfl (by rw [hQ]; exact by rw [lnx_g ek]; exact hl)
      · skip
        have ku := hT.up hi (by omega) (by omega)
        refine Pv.aload rfl rfl ?_
        refine Pv.getI (z := F.1 3 5) rfl rfl (rfl) ?_
        refine Pv.tab (t := 92) rfl (by rw [hk.trans ek]; rfl) ?_
        refine Pv.aload rfl rfl ?_
        refine Pv.aload rfl rfl ?_
        refine Pv.callV (as := [.ref r, .ref 3]) (rest := []) rfl rfl rfl (c_rman hG hT h4 ku hr hs hg hm hq hcu) ?_
        rintro r0 G hl
        obtain ⟨z, rfl⟩ : ∃ z, r0 = some (.int z) := LCQ.i hl
        refine (show Pv _ _ 97 [some (.ref r), some (.ref 3)] [.int z] G Q from ?_)
        exact Pv.zret rfl (by rw [hQ]; exact by rw [lnx_m ek]; exact hl)
      · skip
        have ku := hT.up hi (by omega) (by omega)
        refine Pv.aload rfl rfl ?_
        refine Pv.getI (z := F.1 3 5) rfl rfl (rfl) ?_
        refine Pv.tab (t := 98) rfl (by rw [hk.trans ek]; rfl) ?_
        refine Pv.aload rfl rfl ?_
        refine Pv.aload rfl rfl ?_
        refine Pv.callV (as := [.ref r, .ref 3]) (rest := []) rfl rfl rfl (c_rmiss hG hT h4 ku hr hs hg hm hq hcu) ?_
        rintro r0 G hl
        obtain ⟨z, rfl⟩ : ∃ z, r0 = some (.int z) := LCQ.i hl
        refine (show Pv _ _ 103 [some (.ref r), some (.ref 3)] [.int z] G Q from ?_)
        exact Pv.zret rfl (by rw [hQ]; exact by rw [lnx_s ek]; exact hl)
      · skip
        refine Pv.aload rfl rfl ?_
        refine Pv.getI (z := F.1 3 5) rfl rfl (rfl) ?_
        refine Pv.tab (t := 104) rfl (tab8 (by rw [hk]; exact ek)) ?_
        refine Pv.aload rfl rfl ?_
        refine Pv.lit rfl ?_
        refine Pv.callVI (as := [.ref 3, .int 1]) (rest := []) (z := 0) rfl rfl rfl (c_fail (c := 1)) ?_
        exact Pv.zret rfl (by rw [hQ]; exact LCQ.fl (c := 1) (j := i) (lnx_n ek) CSX.rf hcu)
    · skip
      replace c2 := of_decide_eq_false c2
      have kb1 := mt Int32.lt_iff_toInt_lt.mpr c1
      have kb2 := mt Int32.lt_iff_toInt_lt.mpr c2
      rw [hk] at kb1 kb2
      have z66 : (66 : Int32).toInt = 66 := rfl
      have z69 : (69 : Int32).toInt = 69 := rfl
      obtain ⟨so, hso⟩ : ∃ so : Nat, (K i).k = 66 + (so : Int) := ⟨((K i).k - 66).toNat, by omega⟩
      have ku := hT.up hi (by omega) (by omega)
      refine Pv.aload rfl rfl ?_
      refine Pv.aload rfl rfl ?_
      refine Pv.aload rfl rfl ?_
      refine Pv.getI (z := F.1 3 5) rfl rfl (rfl) ?_
      refine Pv.lit rfl ?_
      refine Pv.bin (z := Int32.ofNat so) rfl (kd66 hk hso (by omega)) ?_
      refine Pv.callV (as := [.ref r, .ref 3, .int (Int32.ofNat so)]) (rest := []) rfl rfl rfl (c_ramt hG hT h4 ku hr hs hg hm hq hcu (show so < 4 by omega)) ?_
      rintro r0 G hl
      obtain ⟨z, rfl⟩ : ∃ z, r0 = some (.int z) := LCQ.i hl
      refine (show Pv _ _ 30 [some (.ref r), some (.ref 3)] [.int z] G Q from ?_)
      exact Pv.zret rfl (by rw [hQ]; exact by rw [lnx_a hso (by omega)]; exact hl)
end
-- 63.b9m.sc.lean.txt
section
def CTQ (F F' : FW) (K : Nat → TT) (r : Nat) (v : Option Value) : Prop := CSX r F F' ∧ ∃ l i s, lns K l = some (s, i) ∧ ((stp K l s i = some ((l : Int), 0) ∧ v = some (.int (Int32.ofNat l)) ∧ SCF F' r s ∧ F'.1 3 9 = 0) ∨ (∃ f j z, v = some (.int z) ∧ stp K l s i = some (-1 - (K j).pl, f) ∧ f ≠ 0 ∧ (F'.1 3 9).toInt = f ∧ CURF F' (K j)))
theorem CTQ.i {F F' : FW} {K : Nat → TT} {r : Nat} {v : Option Value} (h : CTQ F F' K r v) : ∃ z, v = some (.int z) := by
  obtain ⟨-, l, i, s, -, h | ⟨f, j, z, h, -⟩⟩ := h
  · exact ⟨_, h.2.1⟩
  · exact ⟨z, h⟩
theorem CSX.o8 {r : Nat} {F G : FW} (x : FX (fun q => r ≤ q ∧ q ≤ r + 7) F G) (hr : 40 ≤ r) : CSX r F G := ⟨x.wd fun q h => Or.inr h, fun k _ _ _ _ _ => x.1 3 k (by omega), fun k _ => x.2.1 3 k (by omega)⟩
end
-- 63.b9n.lean.txt
section
set_option maxRecDepth 100000 in
set_option maxHeartbeats 4000000 in
theorem c_clear {F : FW} {r : Nat} (hO : O7 F r) (hL : F.2.2.2.2 (r + 4) = 48) : Pm Z_X7_clear [.ref r] F (fun r' F' => r' = none ∧ FX (fun q => r ≤ q ∧ q ≤ r + 7) F F' ∧ SCF F' r s0) := by
  refine Pm.of fun N => ?_
  obtain ⟨Q, hQ⟩ : ∃ Q : Option Value → FW → Prop, Q = (fun r' F' => r' = none ∧ FX (fun q => r ≤ q ∧ q ≤ r + 7) F F' ∧ SCF F' r s0) := ⟨_, rfl⟩
  rw [← hQ]
  refine (show Pv (ab_T L_X7_clear) N 0 [some (.ref r), none] [] F Q from ?_)
  refine Pv.lit rfl ?_
  refine Pv.istore (lo' := [some (.ref r), some (.int 0)]) rfl rfl ?_
  refine Pv.lp (ι := Nat × FW) (lof := fun ⟨k, G⟩ => [some (.ref r), some (.int (Int32.ofNat k))]) (Ff := fun ⟨k, G⟩ => G) (P := fun ⟨k, G⟩ => (k ≤ 48) ∧ (FX (fun q => q = r + 4) F G) ∧ (∀ j, j < k → G.1 (r + 4) j = 0)) ?_ (0, F) (⟨Nat.zero_le _, FX.rf, fun j hj => absurd hj (Nat.not_lt_zero j)⟩)
  rintro N1 hN2 ⟨k, G⟩ hi3 ih4
  refine (show Pv _ _ 2 [some (.ref r), some (.int (Int32.ofNat k))] [] G Q from ?_)
  obtain ⟨hk, hx, hz⟩ := hi3
  refine Pv.iloadS rfl rfl ?_
  refine Pv.aload rfl rfl ?_
  refine Pv.getR (v := .ref (r + 4)) rfl rfl ((FX.O7 (P := fun q => q = r + 4) hx hO) 3 (by decide)) ?_
  refine Pv.alen rfl ?_
  rw [show G.2.2.2.2 (r + 4) = 48 by rw [hx.2.2.2]; exact hL]
  refine Pv.icmp rfl (fun c5 => ?_) (fun c5 => ?_)
  · skip
    replace c5 := (i_le (a := 48) (b := k) (by omega) (by omega)).mp (of_decide_eq_true c5)
    refine Pv.aload rfl rfl ?_
    refine Pv.lit rfl ?_
    refine Pv.putI rfl rfl ?_
    refine Pv.aload rfl rfl ?_
    refine Pv.lit rfl ?_
    refine Pv.putI rfl rfl ?_
    refine Pv.aload rfl rfl ?_
    refine Pv.lit rfl ?_
    refine Pv.putI rfl rfl ?_
    refine Pv.aload rfl rfl ?_
    refine Pv.lit rfl ?_
    refine Pv.putI rfl rfl ?_
    refine Pv.aload rfl rfl ?_
    refine Pv.lit rfl ?_
    refine Pv.putI rfl rfl ?_
    refine Pv.aload rfl rfl ?_
    refine Pv.lit rfl ?_
    refine Pv.putL rfl rfl ?_
    exact Pv.vret rfl (by rw [hQ]; exact ⟨rfl, (((((((hx.wd (P' := fun q => r ≤ q ∧ q ≤ r + 7) (fun q (c : q = r + 4) => by omega)).fp (show r ≤ r ∧ r ≤ r + 7 by omega)).fp (show r ≤ r ∧ r ≤ r + 7 by omega)).fp (show r ≤ r ∧ r ≤ r + 7 by omega)).fp (show r ≤ r ∧ r ≤ r + 7 by omega)).fp (show r ≤ r ∧ r ≤ r + 7 by omega)).fpl (show r ≤ r ∧ r ≤ r + 7 by omega)), SCF.s0 (show O7 G r from FX.O7 (P := fun q => q = r + 4) hx hO) ((fpl_i).trans ((fp_ne (Or.inr (by decide))).trans ((fp_ne (Or.inr (by decide))).trans ((fp_ne (Or.inr (by decide))).trans ((fp_ne (Or.inr (by decide))).trans (fp_eq)))))) ((fpl_i).trans ((fp_ne (Or.inr (by decide))).trans ((fp_ne (Or.inr (by decide))).trans ((fp_ne (Or.inr (by decide))).trans (fp_eq))))) ((fpl_i).trans ((fp_ne (Or.inr (by decide))).trans ((fp_ne (Or.inr (by decide))).trans (fp_eq)))) ((fpl_i).trans ((fp_ne (Or.inr (by decide))).trans (fp_eq))) ((fpl_i).trans (fp_eq)) (fpl_eq) (fun j hj => (fpl_i).trans ((fp_ne (Or.inl (by omega))).trans ((fp_ne (Or.inl (by omega))).trans ((fp_ne (Or.inl (by omega))).trans ((fp_ne (Or.inl (by omega))).trans ((fp_ne (Or.inl (by omega))).trans (hz j (by omega))))))))⟩)
  · skip
    replace c5 := mt (i_le (a := 48) (b := k) (by omega) (by omega)).mpr (of_decide_eq_false c5)
    refine Pv.aload rfl rfl ?_
    refine Pv.getR (v := .ref (r + 4)) rfl rfl ((FX.O7 (P := fun q => q = r + 4) hx hO) 3 (by decide)) ?_
    refine Pv.iload rfl rfl ?_
    refine Pv.lit rfl ?_
    refine Pv.astk (k := k) (z := 0) rfl (i_toNat (by omega)) (rfl) ?_
    refine Pv.iinc (y := Int32.ofNat (k + 1)) (lo' := [some (.ref r), some (.int (Int32.ofNat (k + 1)))]) rfl rfl (i_add k 1) rfl ?_
    refine Pv.goto rfl ?_
    exact ih4 (k + 1, (fp G (r + 4) k 0)) (⟨by omega, hx.fp rfl, fun j hj => Or.elim (Classical.em (j = k)) (fun e => by rw [e]; exact fp_eq) (fun e => (fp_ne (Or.inr e)).trans (hz j (by omega)))⟩)
set_option maxRecDepth 100000 in
set_option maxHeartbeats 4000000 in
theorem c_rtext {F : FW} {K : Nat → TT} {mz r : Nat} (hG : GW F) (hT : TKF F K mz) (h4 : F.1 3 4 = Int32.ofNat 0) (h9 : F.1 3 9 = 0) (hr : 40 ≤ r) (hO : O7 F r) (hL : F.2.2.2.2 (r + 4) = 48) : Pm Z_X7_readText [.ref r, .ref 3] F (fun r' F' => CTQ F F' K r r') := by
  refine Pm.of fun N => ?_
  obtain ⟨Q, hQ⟩ : ∃ Q : Option Value → FW → Prop, Q = (fun r' F' => CTQ F F' K r r') := ⟨_, rfl⟩
  rw [← hQ]
  have hmb := hT.b
  refine (show Pv (ab_T (L_X7_readText Z_X7_clear Z_X9_step Z_X7_readLine Z_X9_takeSign)) N 0 [some (.ref r), some (.ref 3), none] [] F Q from ?_)
  refine Pv.aload rfl rfl ?_
  refine Pv.callV (as := [.ref r]) (rest := []) rfl rfl rfl (c_clear hO hL) ?_
  rintro _ G0 ⟨rfl, x0f, sc0⟩
  have x0 := CSX.o8 x0f hr
  have g0 := x0.G hG
  have c4 := x0f.1 3 4 (by omega)
  have c9 := x0f.1 3 9 (by omega)
  refine (show Pv _ _ 4 [some (.ref r), some (.ref 3), none] [] G0 Q from ?_)
  refine Pv.lit rfl ?_
  refine Pv.istore (lo' := [some (.ref r), some (.ref 3), some (.int 0)]) rfl rfl ?_
  refine Pv.lp (ι := Nat × Nat × PS × FW) (lof := fun ⟨l, i, s, G⟩ => [some (.ref r), some (.ref 3), some (.int (Int32.ofNat l))]) (Ff := fun ⟨l, i, s, G⟩ => G) (P := fun ⟨l, i, s, G⟩ => l ≤ i ∧ CSX r F G ∧ lns K l = some (s, i) ∧ SCF G r s ∧ G.1 3 4 = Int32.ofNat i ∧ G.1 3 9 = 0 ∧ i < mz) ?_ (0, 0, s0, G0) (⟨Nat.le_refl _, x0, rfl, sc0, c4.trans h4, c9.trans h9, by have := hT.1; omega⟩)
  rintro N1 hN2 ⟨l, i, s, G⟩ hi3 ih4
  refine (show Pv _ _ 6 [some (.ref r), some (.ref 3), some (.int (Int32.ofNat l))] [] G Q from ?_)
  obtain ⟨hli, hx, hls, hs, h4g, h9g, him⟩ := hi3
  have gG := hx.G hG
  have tG := hx.TK hr hT
  have bb := hs.b
  unfold PSB at bb
  refine Pv.iloadS rfl rfl ?_
  refine Pv.lit rfl ?_
  refine Pv.icmp rfl (fun c5 => ?_) (fun c5 => ?_)
  · skip
    replace c5 := (i_lt (a := 900) (b := l) (by omega) (by omega)).mp (of_decide_eq_true c5)
    omega
  · skip
    replace c5 := mt (i_lt (a := 900) (b := l) (by omega) (by omega)).mpr (of_decide_eq_false c5)
    refine Pv.aload rfl rfl ?_
    refine Pv.callV (as := [.ref 3]) (rest := []) rfl rfl rfl (c_step gG tG h4g him) ?_
    rintro _ G1 ⟨rfl, hd⟩
    have g1 := RCX.G hd.1 gG
    have t1 := RCX.TK hd.1 tG
    have sc1 := hs.rx hd.1 hr
    have z1 : G1.1 3 9 = 0 := (hd.ok9 rfl).trans h9g
    refine (show Pv _ _ 17 [some (.ref r), some (.ref 3), some (.int (Int32.ofNat l))] [] G1 Q from ?_)
    refine Pv.aload rfl rfl ?_
    refine Pv.getI (z := G1.1 3 5) rfl rfl (rfl) ?_
    refine Pv.if0 rfl (fun c6 => ?_) (fun c6 => ?_)
    · skip
      replace c6 : decide (G1.1 3 5 = 0) = false := by simpa using c6
      replace c6 := of_decide_eq_false c6
      have k0 : (K i).k ≠ 0 := fun e => c6 ((k_eq (x := 0) hd.2.2.1.1).mpr e)
      obtain ⟨g, hg⟩ : ∃ g : Nat, s.h 0 = (g : Int) := ⟨(s.h 0).toNat, by omega⟩
      obtain ⟨m, hm⟩ : ∃ m : Nat, s.h 1 = (m : Int) := ⟨(s.h 1).toNat, by omega⟩
      obtain ⟨q, hq⟩ : ∃ q : Nat, s.h 3 = (q : Int) := ⟨(s.h 3).toNat, by omega⟩
      refine Pv.aload rfl rfl ?_
      refine Pv.aload rfl rfl ?_
      refine Pv.callV (as := [.ref r, .ref 3]) (rest := []) rfl rfl rfl (c_rline g1 t1 hd.2.1 him k0 hr sc1 hg hm hq hd.2.2.1) ?_
      rintro r0 G2 hl
      obtain ⟨z, rfl⟩ := LCQ.i hl
      refine (show Pv _ _ 31 [some (.ref r), some (.ref 3), some (.int (Int32.ofNat l))] [.int z] G2 Q from ?_)
      refine Pv.if0 rfl (fun c7 => ?_) (fun c7 => ?_)
      · skip
        replace c7 := of_decide_eq_true c7
        obtain ⟨f, j, ex, cx, f1, f2⟩ := hl.n c7
        refine Pv.lit rfl ?_
        exact Pv.ret rfl (by rw [hQ]; exact ⟨(hx.rx hd.1).tr cx, l, i, s, hls, Or.inr ⟨f, j, _, rfl, stp_b k0 ex, BZ.x f j ex, f1, f2⟩⟩)
      · skip
        replace c7 := of_decide_eq_false c7
        obtain ⟨s', j, ex, cx, e4, e9, sc2, jm⟩ := hl.y c7
        have g2 := cx.G g1
        have t2 := cx.TK hr t1
        refine Pv.aload rfl rfl ?_
        refine Pv.lit rfl ?_
        refine Pv.callV (as := [.ref 3, .int 59]) (rest := []) rfl rfl rfl (c_takeSign g2 t2 e4 jm 59) ?_
        rintro _ G3 ⟨rfl, hd3x⟩
        have hd3 : RDC G2 G3 (K j) j (tnS (K j) 59) := hd3x
        have g3 := RCX.G hd3.1 g2
        have t3 := RCX.TK hd3.1 t2
        refine (show Pv _ _ 40 [some (.ref r), some (.ref 3), some (.int (Int32.ofNat l))] [.int (b2i (decide (tnS (K j) 59 = 0)))] G3 Q from ?_)
        refine Pv.if0 rfl (fun c8 => ?_) (fun c8 => ?_)
        · skip
          replace c8 : decide (b2i (decide (tnS (K j) 59 = 0)) = 0) = false := by simpa using c8
          replace c8 := of_decide_eq_false c8
          replace c8 := b2n.mp c8
          refine Pv.iinc (y := Int32.ofNat (l + 1)) (lo' := [some (.ref r), some (.ref 3), some (.int (Int32.ofNat (l + 1)))]) rfl rfl (i_add l 1) rfl ?_
          refine Pv.goto rfl ?_
          exact ih4 (l + 1, (j + 1), s', G3) (⟨by have := BJ.x s' j ex; omega, ((hx.rx hd.1).tr cx).rx hd3.1, lns_y hls k0 ex (tnS_k (of_decide_eq_true c8)), sc2.rx hd3.1 hr, hd3.2.1, (hd3.ok9 (of_decide_eq_true c8)).trans (e9.trans z1), t2.up jm (by rw [tnS_k (of_decide_eq_true c8)]; decide) (by rw [tnS_k (of_decide_eq_true c8)]; decide)⟩)
        · skip
          replace c8 : decide (b2i (decide (tnS (K j) 59 = 0)) = 0) = true := by simpa using c8
          replace c8 := of_decide_eq_true c8
          replace c8 := b2z.mp c8
          refine Pv.lit rfl ?_
          exact Pv.ret rfl (by rw [hQ]; exact ⟨((hx.rx hd.1).tr cx).rx hd3.1, l, i, s, hls, Or.inr ⟨1, j, _, rfl, stp_s k0 ex (tnS_n (of_decide_eq_false c8)), by decide, congrArg Int32.toInt ((hd3.bad9 (of_decide_eq_false c8)).trans (tnS_1 (of_decide_eq_false c8))), hd3.2.2.1⟩⟩)
    · skip
      replace c6 : decide (G1.1 3 5 = 0) = true := by simpa using c6
      replace c6 := of_decide_eq_true c6
      refine Pv.iload rfl rfl ?_
      exact Pv.ret rfl (by rw [hQ]; exact ⟨hx.rx hd.1, l, i, s, hls, Or.inl ⟨stp_0 ((k_eq (x := 0) hd.2.2.1.1).mp c6), rfl, sc1, z1⟩⟩)
end
-- 63.b9o.bg.lean.txt
section
/-! ===== it begins ===== -/
def BGF (F G : FW) (p : Nat) : Prop := FX (fun q => 12 ≤ q ∧ q ≤ 19) F G ∧ (∀ j, j < 12 → G.1 13 j = F.1 (p + 4) (0 * 12 + j) ∧ G.1 14 j = 0 ∧ G.1 15 j = 0 ∧ G.1 16 j = 0) ∧ (∀ j, j < 8 → G.1 17 j = F.1 (p + 3) j ∧ G.1 18 j = 0) ∧ (∀ j, j < 64 → G.1 19 j = 0) ∧ G.1 12 7 = 0 ∧ G.1 12 8 = 0 ∧ G.1 12 9 = 0
end
-- 63.b9p.lean.txt
section
set_option maxRecDepth 100000 in
set_option maxHeartbeats 4000000 in
theorem f_beginAs {F : FW} {p : Nat} (hO : O7 F 12) (hp7 : O7 F p) (hp : 40 ≤ p) : Pm Z_X6_beginAs [.ref 12, .ref p] F (fun r F' => r = none ∧ BGF F F' p) := by
  refine Pm.of fun N => ?_
  obtain ⟨Q, hQ⟩ : ∃ Q : Option Value → FW → Prop, Q = (fun r F' => r = none ∧ BGF F F' p) := ⟨_, rfl⟩
  rw [← hQ]
  refine (show Pv (ab_T (L_X6_beginAs Z_X7_amountOf)) N 0 [some (.ref 12), some (.ref p), none] [] F Q from ?_)
  refine Pv.lit rfl ?_
  refine Pv.istore (lo' := [some (.ref 12), some (.ref p), some (.int 0)]) rfl rfl ?_
  refine Pv.lp (ι := Nat × FW) (lof := fun ⟨i1, A⟩ => [some (.ref 12), some (.ref p), some (.int (Int32.ofNat i1))]) (Ff := fun ⟨i1, A⟩ => A) (P := fun ⟨i1, A⟩ => (i1 ≤ 12) ∧ (FX (fun q => 12 ≤ q ∧ q ≤ 19) F A) ∧ (∀ j, j < i1 → A.1 13 j = F.1 (p + 4) (0 * 12 + j)) ∧ (∀ j, j < i1 → A.1 14 j = 0) ∧ (∀ j, j < i1 → A.1 15 j = 0) ∧ (∀ j, j < i1 → A.1 16 j = 0)) ?_ (0, F) (⟨Nat.zero_le _, FX.rf, fun j hj => absurd hj (Nat.not_lt_zero j), fun j hj => absurd hj (Nat.not_lt_zero j), fun j hj => absurd hj (Nat.not_lt_zero j), fun j hj => absurd hj (Nat.not_lt_zero j)⟩)
  rintro N1 hN2 ⟨i1, A⟩ hi3 ih4
  refine (show Pv _ _ 2 [some (.ref 12), some (.ref p), some (.int (Int32.ofNat i1))] [] A Q from ?_)
  obtain ⟨hi1, xa, a3, a4, a5, a6⟩ := hi3
  refine Pv.iloadS rfl rfl ?_
  refine Pv.lit rfl ?_
  refine Pv.icmp rfl (fun c5 => ?_) (fun c5 => ?_)
  · skip
    replace c5 := (i_le (a := 12) (b := i1) (by omega) (by omega)).mp (of_decide_eq_true c5)
    refine Pv.lit rfl ?_
    refine Pv.istore (lo' := [some (.ref 12), some (.ref p), some (.int 0)]) rfl rfl ?_
    refine Pv.lp (ι := Nat × FW) (lof := fun ⟨i2, C⟩ => [some (.ref 12), some (.ref p), some (.int (Int32.ofNat i2))]) (Ff := fun ⟨i2, C⟩ => C) (P := fun ⟨i2, C⟩ => (i2 ≤ 8) ∧ (FX (fun q => q = 17 ∨ q = 18) A C) ∧ (∀ j, j < i2 → C.1 17 j = F.1 (p + 3) j) ∧ (∀ j, j < i2 → C.1 18 j = 0)) ?_ (0, A) (⟨Nat.zero_le _, FX.rf, fun j hj => absurd hj (Nat.not_lt_zero j), fun j hj => absurd hj (Nat.not_lt_zero j)⟩)
    rintro N6 hN7 ⟨i2, C⟩ hi8 ih9
    refine (show Pv _ _ 49 [some (.ref 12), some (.ref p), some (.int (Int32.ofNat i2))] [] C Q from ?_)
    obtain ⟨hi2, xc, c7, c8⟩ := hi8
    have xC : FX (fun q => 12 ≤ q ∧ q ≤ 19) F C := xa.tr (xc.wd fun q (h : q = 17 ∨ q = 18) => by omega)
    refine Pv.iloadS rfl rfl ?_
    refine Pv.lit rfl ?_
    refine Pv.icmp rfl (fun c10 => ?_) (fun c10 => ?_)
    · skip
      replace c10 := (i_le (a := 8) (b := i2) (by omega) (by omega)).mp (of_decide_eq_true c10)
      refine Pv.lit rfl ?_
      refine Pv.istore (lo' := [some (.ref 12), some (.ref p), some (.int 0)]) rfl rfl ?_
      refine Pv.lp (ι := Nat × FW) (lof := fun ⟨i3, D⟩ => [some (.ref 12), some (.ref p), some (.int (Int32.ofNat i3))]) (Ff := fun ⟨i3, D⟩ => D) (P := fun ⟨i3, D⟩ => (i3 ≤ 64) ∧ (FX (fun q => q = 19) C D) ∧ (∀ j, j < i3 → D.1 19 j = 0)) ?_ (0, C) (⟨Nat.zero_le _, FX.rf, fun j hj => absurd hj (Nat.not_lt_zero j)⟩)
      rintro N11 hN12 ⟨i3, D⟩ hi13 ih14
      refine (show Pv _ _ 82 [some (.ref 12), some (.ref p), some (.int (Int32.ofNat i3))] [] D Q from ?_)
      obtain ⟨hi3, xd, d9⟩ := hi13
      have xD : FX (fun q => 12 ≤ q ∧ q ≤ 19) F D := xC.tr (xd.wd fun q (h : q = 19) => by omega)
      refine Pv.iloadS rfl rfl ?_
      refine Pv.lit rfl ?_
      refine Pv.icmp rfl (fun c15 => ?_) (fun c15 => ?_)
      · skip
        replace c15 := (i_le (a := 64) (b := i3) (by omega) (by omega)).mp (of_decide_eq_true c15)
        refine Pv.aload rfl rfl ?_
        refine Pv.lit rfl ?_
        refine Pv.putI rfl rfl ?_
        refine Pv.aload rfl rfl ?_
        refine Pv.lit rfl ?_
        refine Pv.putI rfl rfl ?_
        refine Pv.aload rfl rfl ?_
        refine Pv.lit rfl ?_
        refine Pv.putI rfl rfl ?_
        exact Pv.vret rfl (by rw [hQ]; exact ⟨rfl, (((xD.fp (show 12 ≤ 12 ∧ 12 ≤ 19 by omega)).fp (show 12 ≤ 12 ∧ 12 ≤ 19 by omega)).fp (show 12 ≤ 12 ∧ 12 ≤ 19 by omega)), fun j hj => ⟨(fp_ne (Or.inl (by decide))).trans ((fp_ne (Or.inl (by decide))).trans ((fp_ne (Or.inl (by decide))).trans ((xd.1 13 j (by decide)).trans ((xc.1 13 j (by decide)).trans (a3 j (by omega)))))), (fp_ne (Or.inl (by decide))).trans ((fp_ne (Or.inl (by decide))).trans ((fp_ne (Or.inl (by decide))).trans ((xd.1 14 j (by decide)).trans ((xc.1 14 j (by decide)).trans (a4 j (by omega)))))), (fp_ne (Or.inl (by decide))).trans ((fp_ne (Or.inl (by decide))).trans ((fp_ne (Or.inl (by decide))).trans ((xd.1 15 j (by decide)).trans ((xc.1 15 j (by decide)).trans (a5 j (by omega)))))), (fp_ne (Or.inl (by decide))).trans ((fp_ne (Or.inl (by decide))).trans ((fp_ne (Or.inl (by decide))).trans ((xd.1 16 j (by decide)).trans ((xc.1 16 j (by decide)).trans (a6 j (by omega))))))⟩, fun j hj => ⟨(fp_ne (Or.inl (by decide))).trans ((fp_ne (Or.inl (by decide))).trans ((fp_ne (Or.inl (by decide))).trans ((xd.1 17 j (by decide)).trans (c7 j (by omega))))), (fp_ne (Or.inl (by decide))).trans ((fp_ne (Or.inl (by decide))).trans ((fp_ne (Or.inl (by decide))).trans ((xd.1 18 j (by decide)).trans (c8 j (by omega)))))⟩, fun j hj => (fp_ne (Or.inl (by decide))).trans ((fp_ne (Or.inl (by decide))).trans ((fp_ne (Or.inl (by decide))).trans (d9 j (by omega)))), (fp_ne (Or.inr (by decide))).trans ((fp_ne (Or.inr (by decide))).trans (fp_eq)), (fp_ne (Or.inr (by decide))).trans (fp_eq), fp_eq⟩)
      · skip
        replace c15 := mt (i_le (a := 64) (b := i3) (by omega) (by omega)).mpr (of_decide_eq_false c15)
        refine Pv.aload rfl rfl ?_
        refine Pv.getR (v := .ref 19) rfl rfl ((FX.O7 (P := fun q => 12 ≤ q ∧ q ≤ 19) xD hO) 6 (by decide)) ?_
        refine Pv.iload rfl rfl ?_
        refine Pv.lit rfl ?_
        refine Pv.astk (k := i3) (z := 0) rfl (i_toNat (by omega)) (rfl) ?_
        refine Pv.iinc (y := Int32.ofNat (i3 + 1)) (lo' := [some (.ref 12), some (.ref p), some (.int (Int32.ofNat (i3 + 1)))]) rfl rfl (i_add i3 1) rfl ?_
        refine Pv.goto rfl ?_
        exact ih14 (i3 + 1, (fp D 19 i3 0)) (⟨by omega, xd.fp rfl, fun j hj => Or.elim (Classical.em (j = i3)) (fun e => by rw [e]; exact fp_eq) (fun e => (fp_ne (Or.inr e)).trans (d9 j (by omega)))⟩)
    · skip
      replace c10 := mt (i_le (a := 8) (b := i2) (by omega) (by omega)).mpr (of_decide_eq_false c10)
      refine Pv.aload rfl rfl ?_
      refine Pv.getR (v := .ref 17) rfl rfl ((FX.O7 (P := fun q => 12 ≤ q ∧ q ≤ 19) xC hO) 4 (by decide)) ?_
      refine Pv.iload rfl rfl ?_
      refine Pv.aload rfl rfl ?_
      refine Pv.getR (v := .ref (p + 3)) rfl rfl ((FX.O7 (P := fun q => 12 ≤ q ∧ q ≤ 19) xC hp7) 2 (by decide)) ?_
      refine Pv.iload rfl rfl ?_
      refine Pv.ald (z := F.1 (p + 3) i2) rfl (by rw [i_toNat (by omega)]; exact xC.1 (p + 3) _ (by omega)) ?_
      refine Pv.astk (k := i2) (z := F.1 (p + 3) i2) rfl (i_toNat (by omega)) (rfl) ?_
      refine Pv.aload rfl rfl ?_
      refine Pv.getR (v := .ref 18) rfl rfl ((FX.O7 (P := fun q => 12 ≤ q ∧ q ≤ 19) xC hO) 5 (by decide)) ?_
      refine Pv.iload rfl rfl ?_
      refine Pv.lit rfl ?_
      refine Pv.astk (k := i2) (z := 0) rfl (i_toNat (by omega)) (rfl) ?_
      refine Pv.iinc (y := Int32.ofNat (i2 + 1)) (lo' := [some (.ref 12), some (.ref p), some (.int (Int32.ofNat (i2 + 1)))]) rfl rfl (i_add i2 1) rfl ?_
      refine Pv.goto rfl ?_
      exact ih9 (i2 + 1, (fp (fp C 17 i2 (F.1 (p + 3) i2)) 18 i2 0)) (⟨by omega, (xc.fp (Or.inl rfl)).fp (Or.inr rfl), fun j hj => Or.elim (Classical.em (j = i2)) (fun e => by rw [e]; exact (fp_ne (Or.inl (by decide))).trans (fp_eq)) (fun e => (fp_ne (Or.inl (by decide))).trans ((fp_ne (Or.inr e)).trans (c7 j (by omega)))), fun j hj => Or.elim (Classical.em (j = i2)) (fun e => by rw [e]; exact fp_eq) (fun e => (fp_ne (Or.inr e)).trans ((fp_ne (Or.inl (by decide))).trans (c8 j (by omega))))⟩)
  · skip
    replace c5 := mt (i_le (a := 12) (b := i1) (by omega) (by omega)).mpr (of_decide_eq_false c5)
    refine Pv.aload rfl rfl ?_
    refine Pv.getR (v := .ref 13) rfl rfl ((FX.O7 (P := fun q => 12 ≤ q ∧ q ≤ 19) xa hO) 0 (by decide)) ?_
    refine Pv.iload rfl rfl ?_
    refine Pv.aload rfl rfl ?_
    refine Pv.lit rfl ?_
    refine Pv.iload rfl rfl ?_
    refine Pv.callV (as := [.ref p, .int 0, .int (Int32.ofNat i1)]) (rest := [.int (Int32.ofNat i1), .ref 13]) (Q' := (fun r F' => Pv (ab_T (L_X6_beginAs Z_X7_amountOf)) N1 19 [some (.ref 12), some (.ref p), some (.int (Int32.ofNat i1))] (r.toList ++ [.int (Int32.ofNat i1), .ref 13]) F' Q)) rfl rfl rfl ?_ (fun r F' h => h)
    refine Pm.of fun N17 => ?_
    obtain ⟨Q16, hQ16⟩ : ∃ Qx : Option Value → FW → Prop, Qx = (fun r F' => Pv (ab_T (L_X6_beginAs Z_X7_amountOf)) N1 19 [some (.ref 12), some (.ref p), some (.int (Int32.ofNat i1))] (r.toList ++ [.int (Int32.ofNat i1), .ref 13]) F' Q) := ⟨_, rfl⟩
    rw [← hQ16]
    refine (show Pv (ab_T L_X7_amountOf) N17 0 [some (.ref p), some (.int 0), some (.int (Int32.ofNat i1))] [] A Q16 from ?_)
    refine Pv.aload rfl rfl ?_
    refine Pv.getR (v := .ref (p + 4)) rfl rfl ((FX.O7 (P := fun q => 12 ≤ q ∧ q ≤ 19) xa hp7) 3 (by decide)) ?_
    refine Pv.iload rfl rfl ?_
    refine Pv.lit rfl ?_
    refine Pv.bin (z := Int32.ofNat (0 * 12)) rfl (i_mul 0 12) ?_
    refine Pv.iload rfl rfl ?_
    refine Pv.bin (z := Int32.ofNat ((0 * 12) + i1)) rfl (i_add (0 * 12) i1) ?_
    refine Pv.ald (z := F.1 (p + 4) ((0 * 12) + i1)) rfl (by rw [i_toNat (by omega)]; exact xa.1 (p + 4) _ (by omega)) ?_
    refine Pv.ret rfl ?_
    rw [hQ16]
    refine (show Pv (ab_T (L_X6_beginAs Z_X7_amountOf)) N1 19 [some (.ref 12), some (.ref p), some (.int (Int32.ofNat i1))] [.int (F.1 (p + 4) ((0 * 12) + i1)), .int (Int32.ofNat i1), .ref 13] A Q from ?_)
    refine Pv.astk (k := i1) (z := F.1 (p + 4) ((0 * 12) + i1)) rfl (i_toNat (by omega)) (rfl) ?_
    refine Pv.aload rfl rfl ?_
    refine Pv.getR (v := .ref 14) rfl rfl ((FX.O7 (P := fun q => 12 ≤ q ∧ q ≤ 19) xa hO) 1 (by decide)) ?_
    refine Pv.iload rfl rfl ?_
    refine Pv.lit rfl ?_
    refine Pv.astk (k := i1) (z := 0) rfl (i_toNat (by omega)) (rfl) ?_
    refine Pv.aload rfl rfl ?_
    refine Pv.getR (v := .ref 15) rfl rfl ((FX.O7 (P := fun q => 12 ≤ q ∧ q ≤ 19) xa hO) 2 (by decide)) ?_
    refine Pv.iload rfl rfl ?_
    refine Pv.lit rfl ?_
    refine Pv.astk (k := i1) (z := 0) rfl (i_toNat (by omega)) (rfl) ?_
    refine Pv.aload rfl rfl ?_
    refine Pv.getR (v := .ref 16) rfl rfl ((FX.O7 (P := fun q => 12 ≤ q ∧ q ≤ 19) xa hO) 3 (by decide)) ?_
    refine Pv.iload rfl rfl ?_
    refine Pv.lit rfl ?_
    refine Pv.astk (k := i1) (z := 0) rfl (i_toNat (by omega)) (rfl) ?_
    refine Pv.iinc (y := Int32.ofNat (i1 + 1)) (lo' := [some (.ref 12), some (.ref p), some (.int (Int32.ofNat (i1 + 1)))]) rfl rfl (i_add i1 1) rfl ?_
    refine Pv.goto rfl ?_
    exact ih4 (i1 + 1, (fp (fp (fp (fp A 13 i1 (F.1 (p + 4) ((0 * 12) + i1))) 14 i1 0) 15 i1 0) 16 i1 0)) (⟨by omega, ((((xa.fp (show 12 ≤ 13 ∧ 13 ≤ 19 by omega)).fp (show 12 ≤ 14 ∧ 14 ≤ 19 by omega)).fp (show 12 ≤ 15 ∧ 15 ≤ 19 by omega)).fp (show 12 ≤ 16 ∧ 16 ≤ 19 by omega)), fun j hj => Or.elim (Classical.em (j = i1)) (fun e => by rw [e]; exact (fp_ne (Or.inl (by decide))).trans ((fp_ne (Or.inl (by decide))).trans ((fp_ne (Or.inl (by decide))).trans (fp_eq)))) (fun e => (fp_ne (Or.inl (by decide))).trans ((fp_ne (Or.inl (by decide))).trans ((fp_ne (Or.inl (by decide))).trans ((fp_ne (Or.inr e)).trans (a3 j (by omega)))))), fun j hj => Or.elim (Classical.em (j = i1)) (fun e => by rw [e]; exact (fp_ne (Or.inl (by decide))).trans ((fp_ne (Or.inl (by decide))).trans (fp_eq))) (fun e => (fp_ne (Or.inl (by decide))).trans ((fp_ne (Or.inl (by decide))).trans ((fp_ne (Or.inr e)).trans ((fp_ne (Or.inl (by decide))).trans (a4 j (by omega)))))), fun j hj => Or.elim (Classical.em (j = i1)) (fun e => by rw [e]; exact (fp_ne (Or.inl (by decide))).trans (fp_eq)) (fun e => (fp_ne (Or.inl (by decide))).trans ((fp_ne (Or.inr e)).trans ((fp_ne (Or.inl (by decide))).trans ((fp_ne (Or.inl (by decide))).trans (a5 j (by omega)))))), fun j hj => Or.elim (Classical.em (j = i1)) (fun e => by rw [e]; exact fp_eq) (fun e => (fp_ne (Or.inr e)).trans ((fp_ne (Or.inl (by decide))).trans ((fp_ne (Or.inl (by decide))).trans ((fp_ne (Or.inl (by decide))).trans (a6 j (by omega))))))⟩)
end
-- 63.b9q.bg.lean.txt
section
theorem CTQ.bad {F G : FW} {K : Nat → TT} {p : Nat} {v : Option Value} (h : CTQ F G K p v) (c : ¬ G.1 3 9 = 0) : ∃ l i s f j, lns K l = some (s, i) ∧ stp K l s i = some (-1 - (K j).pl, f) ∧ f ≠ 0 ∧ (G.1 3 9).toInt = f ∧ CURF G (K j) := by
  obtain ⟨-, l, i, s, hl, h | ⟨f, j, z, -, h1, h2, h3, h4⟩⟩ := h
  · exact absurd h.2.2.2 c
  · exact ⟨l, i, s, f, j, hl, h1, h2, h3, h4⟩
theorem CTQ.ok {F G : FW} {K : Nat → TT} {p : Nat} {z : Int32} (h : CTQ F G K p (some (.int z))) (c : G.1 3 9 = 0) : ∃ l i s, lns K l = some (s, i) ∧ stp K l s i = some ((l : Int), 0) ∧ z = Int32.ofNat l ∧ SCF G p s := by
  obtain ⟨-, l, i, s, hl, h | ⟨f, j, z', -, h1, h2, h3, h4⟩⟩ := h
  · exact ⟨l, i, s, hl, h.1, Value.int.inj (Option.some.inj h.2.1), h.2.2.1⟩
  · rw [c] at h3
    exact absurd h3.symm h2
theorem wires_n : ∀ y ∈ wires, ¬ (y.1 = 0 ∧ (y.2.1 = 13 ∨ y.2.1 = 14)) := by decide
/-- what a Strait that stands has changed -/
def CSF (p u : Nat) (F G : FW) : Prop := (∀ a k, ¬ (a = 0 ∧ (k = 13 ∨ k = 14)) → G.2.1 a k = F.2.1 a k) ∧ G.2.2.2 = F.2.2.2 ∧ (∀ a k, ¬ ((a = 0 ∧ k = 18) ∨ a = 3 ∨ (p ≤ a ∧ a ≤ p + 7) ∨ (12 ≤ a ∧ a ≤ 19) ∨ (a = u ∧ k = 5) ∨ (a = 10 ∧ k = 1)) → G.1 a k = F.1 a k) ∧ ∀ a k, ¬ (a = 3 ∨ (p ≤ a ∧ a ≤ p + 7) ∨ (12 ≤ a ∧ a ≤ 19)) → G.2.2.1 a k = F.2.2.1 a k
theorem CSF.fx {p u : Nat} {F G : FW} (x : FX (fun q => q = 3 ∨ (p ≤ q ∧ q ≤ p + 7)) F G) : CSF p u F G := ⟨fun a k _ => by rw [x.2.2.1], x.2.2.2, fun a k c => x.1 a k (fun h => c (h.elim (fun e => Or.inr (Or.inl e)) (fun e => Or.inr (Or.inr (Or.inl e))))), fun a k c => x.2.1 a k (fun h => c (h.elim Or.inl (fun e => Or.inr (Or.inl e))))⟩
theorem CSF.tr {p u : Nat} {F G K : FW} (a : CSF p u F G) (b : CSF p u G K) : CSF p u F K := ⟨fun q k c => (b.1 q k c).trans (a.1 q k c), b.2.1.trans a.2.1, fun q k c => (b.2.2.1 q k c).trans (a.2.2.1 q k c), fun q k c => (b.2.2.2 q k c).trans (a.2.2.2 q k c)⟩
theorem CSF.rf {p u : Nat} {F : FW} : CSF p u F F := ⟨fun _ _ _ => rfl, rfl, fun _ _ _ => rfl, fun _ _ _ => rfl⟩
theorem CSF.p {p u a k : Nat} {v : Int32} {F G : FW} (h : CSF p u F G) (c : (a = 0 ∧ k = 18) ∨ (a = u ∧ k = 5) ∨ (a = 10 ∧ k = 1)) : CSF p u F (fp G a k v) := ⟨h.1, h.2.1, fun b j c2 => (fp_ne (by omega)).trans (h.2.2.1 b j c2), h.2.2.2⟩
theorem CSF.r {p u k : Nat} {v : Value} {F G : FW} (h : CSF p u F G) (c : k = 13 ∨ k = 14) : CSF p u F (fpr G 0 k v) := ⟨fun b j c2 => (fpr_ne (by omega)).trans (h.1 b j c2), h.2.1, h.2.2.1, h.2.2.2⟩
theorem CSF.b {p u : Nat} {F G K : FW} (h : CSF p u F G) (x : FX (fun q => 12 ≤ q ∧ q ≤ 19) G K) : CSF p u F K := ⟨fun b j c => by rw [x.2.2.1]; exact h.1 b j c, x.2.2.2.trans h.2.1, fun b j c => (x.1 b j (fun e => c (Or.inr (Or.inr (Or.inr (Or.inl e)))))).trans (h.2.2.1 b j c), fun b j c => (x.2.1 b j (fun e => c (Or.inr (Or.inr e)))).trans (h.2.2.2 b j c)⟩
theorem CSF.O7 {p u q : Nat} {F G : FW} (h : CSF p u F G) (hq : q ≠ 0) (o : O7 F q) : O7 G q := fun j hj => (h.1 q j (fun c => hq c.1)).trans (o j hj)
theorem CSF.G {p u : Nat} {F G : FW} (h : CSF p u F G) (g : GW F) : GW G := fun y my => (h.1 y.1 y.2.1 (wires_n y my)).trans (g y my)
def BGV (F : FW) (p : Nat) : Prop := (∀ j, j < 12 → F.1 13 j = F.1 (p + 4) (0 * 12 + j) ∧ F.1 14 j = 0 ∧ F.1 15 j = 0 ∧ F.1 16 j = 0) ∧ (∀ j, j < 8 → F.1 17 j = F.1 (p + 3) j ∧ F.1 18 j = 0) ∧ (∀ j, j < 64 → F.1 19 j = 0) ∧ F.1 12 7 = 0 ∧ F.1 12 8 = 0 ∧ F.1 12 9 = 0
theorem BGF.v {F G : FW} {p : Nat} (h : BGF F G p) (hp : 40 ≤ p) : BGV G p := ⟨fun j hj => ⟨(h.2.1 j hj).1.trans (h.1.1 (p + 4) _ (by omega)).symm, (h.2.1 j hj).2⟩, fun j hj => ⟨(h.2.2.1 j hj).1.trans (h.1.1 (p + 3) _ (by omega)).symm, (h.2.2.1 j hj).2⟩, h.2.2.2⟩
theorem BGV.o {F G : FW} {p : Nat} (h : BGV F p) (e : ∀ a k, (12 ≤ a ∧ a ≤ 19) ∨ (p ≤ a ∧ a ≤ p + 7) → G.1 a k = F.1 a k) : BGV G p := by
  refine ⟨fun j hj => ?_, fun j hj => ?_, fun j hj => ?_, ?_, ?_, ?_⟩
  · rw [e 13 j (by omega), e 14 j (by omega), e 15 j (by omega), e 16 j (by omega), e (p + 4) _ (by omega)]
    exact h.1 j hj
  · rw [e 17 j (by omega), e 18 j (by omega), e (p + 3) _ (by omega)]
    exact h.2.1 j hj
  · rw [e 19 j (by omega)]
    exact h.2.2.1 j hj
  · exact (e 12 7 (by omega)).trans h.2.2.2.1
  · exact (e 12 8 (by omega)).trans h.2.2.2.2.1
  · exact (e 12 9 (by omega)).trans h.2.2.2.2.2
def CSW (F F' : FW) (K : Nat → TT) (t p u : Nat) (v : Option Value) : Prop := ∃ l i s, lns K l = some (s, i) ∧
  ((stp K l s i = some ((l : Int), 0) ∧ v = some (.int (Int32.ofNat l)) ∧ SCF F' p s ∧ BGV F' p ∧ F'.2.1 0 13 = .ref p ∧ F'.2.1 0 14 = .ref t ∧ F'.1 0 18 = 0 ∧ F'.1 u 5 = 0 ∧ F'.1 10 1 = 0 ∧ CSF p u F F') ∨
  (∃ f j w, stp K l s i = some (-1 - (K j).pl, f) ∧ f ≠ 0 ∧ v = some (.int (-1 - w)) ∧ w.toInt = (K j).pl ∧ (F'.1 0 18).toInt = f ∧ FX (fun q => q = 0 ∨ q = 3 ∨ (p ≤ q ∧ q ≤ p + 7)) F F' ∧ ∀ k, k ≠ 18 → F'.1 0 k = F.1 0 k))
end
-- 63.b9r.lean.txt
section
set_option maxRecDepth 100000 in
set_option maxHeartbeats 4000000 in
theorem o_st14 {F : FW} {K : Nat → TT} {mz t p u : Nat} (hG : GW F) (ht : F.2.1 0 13 = .ref t) (hp14 : F.2.1 0 14 = .ref p) (j0 : (t = 45 ∧ p = 53) ∨ (t = 53 ∧ p = 45)) (hu : F.2.1 0 15 = .ref u) (ju : u = 61 ∨ u = 65) (h12 : O7 F 12) (hO : O7 F p) (hL : F.2.2.2.2 (p + 4) = 48) (hT : TKF F K mz) (h4 : F.1 3 4 = Int32.ofNat 0) (h9 : F.1 3 9 = 0) (N : Nat) : Pv (ab_T (L_X10_strait Z_X8_moveInto Z_X7_readText Z_X6_beginAs Z_X2_forget)) N 14 [some (.ref 0), none, none] [] F (fun v F' => CSW F F' K t p u v) := by
  obtain ⟨Q, hQ⟩ : ∃ Q : Option Value → FW → Prop, Q = (fun v F' => CSW F F' K t p u v) := ⟨_, rfl⟩
  rw [← hQ]
  refine (show Pv (ab_T (L_X10_strait Z_X8_moveInto Z_X7_readText Z_X6_beginAs Z_X2_forget)) N 14 [some (.ref 0), none, none] [] F Q from ?_)
  refine Pv.aload rfl rfl ?_
  refine Pv.getR (v := .ref p) rfl rfl (hp14) ?_
  refine Pv.aload rfl rfl ?_
  refine Pv.getR (v := .ref 3) rfl rfl (GW.at (a := 0) (k := 1) (b := 3) hG (by decide)) ?_
  refine Pv.callV (as := [.ref p, .ref 3]) (rest := []) rfl rfl rfl (c_rtext hG hT h4 h9 (by omega) hO hL) ?_
  rintro v0 G hc
  obtain ⟨z, rfl⟩ := CTQ.i hc
  have gG := hc.1.G hG
  refine (show Pv _ _ 25 [some (.ref 0), none, none] [.int z] G Q from ?_)
  refine Pv.istore (lo' := [some (.ref 0), some (.int z), none]) rfl rfl ?_
  refine Pv.aload rfl rfl ?_
  refine Pv.aload rfl rfl ?_
  refine Pv.getR (v := .ref 3) rfl rfl (GW.at (a := 0) (k := 1) (b := 3) gG (by decide)) ?_
  refine Pv.getI (z := G.1 3 9) rfl rfl (rfl) ?_
  refine Pv.putI rfl rfl ?_
  refine Pv.aload rfl rfl ?_
  refine Pv.getI (z := G.1 3 9) rfl rfl (fp_eq) ?_
  refine Pv.if0 rfl (fun c1 => ?_) (fun c1 => ?_)
  · skip
    replace c1 := of_decide_eq_true c1
    obtain ⟨l, i, s, hl, hst, ez, sc⟩ := hc.ok c1
    refine Pv.aload rfl rfl ?_
    refine Pv.getR (v := .ref t) rfl rfl ((congrArg (fun z => z 0 13) hc.1.1.2.2.1).trans ht) ?_
    refine Pv.astore (lo' := [some (.ref 0), some (.int z), some (.ref t)]) rfl rfl ?_
    refine Pv.aload rfl rfl ?_
    refine Pv.aload rfl rfl ?_
    refine Pv.getR (v := .ref p) rfl rfl ((congrArg (fun z => z 0 14) hc.1.1.2.2.1).trans hp14) ?_
    refine Pv.putR rfl rfl (Or.inr ⟨_, rfl⟩) ?_
    refine Pv.aload rfl rfl ?_
    refine Pv.aload rfl rfl ?_
    refine Pv.putR rfl rfl (Or.inr ⟨_, rfl⟩) ?_
    refine Pv.aload rfl rfl ?_
    refine Pv.getR (v := .ref 12) rfl rfl ((fpr_ne (Or.inr (by decide))).trans ((fpr_ne (Or.inr (by decide))).trans (GW.at (a := 0) (k := 4) (b := 12) gG (by decide)))) ?_
    refine Pv.aload rfl rfl ?_
    refine Pv.getR (v := .ref p) rfl rfl ((fpr_ne (Or.inr (by decide))).trans (fpr_eq)) ?_
    have xH : CSF p u F (fpr (fpr (fp G 0 18 (G.1 3 9)) 0 13 (.ref p)) 0 14 (.ref t)) := (((CSF.fx hc.1.1).p (Or.inl ⟨rfl, rfl⟩)).r (Or.inl rfl)).r (Or.inr rfl)
    have gH := xH.G hG
    have sH : SCF (fpr (fpr (fp G 0 18 (G.1 3 9)) 0 13 (.ref p)) 0 14 (.ref t)) p s := sc.sm (fun k => (fpr_ne (Or.inl (by omega))).trans (fpr_ne (Or.inl (by omega)))) (fun a k h1 h2 => fp_ne (Or.inl (by omega))) (fun a k h1 h2 => rfl)
    have r13 : ((fpr (fpr (fp G 0 18 (G.1 3 9)) 0 13 (.ref p)) 0 14 (.ref t))).2.1 0 13 = .ref p := (fpr_ne (Or.inr (by decide))).trans fpr_eq
    have r14 : ((fpr (fpr (fp G 0 18 (G.1 3 9)) 0 13 (.ref p)) 0 14 (.ref t))).2.1 0 14 = .ref t := fpr_eq
    have i18 : ((fpr (fpr (fp G 0 18 (G.1 3 9)) 0 13 (.ref p)) 0 14 (.ref t))).1 0 18 = 0 := (show (fp G 0 18 (G.1 3 9)).1 0 18 = G.1 3 9 from fp_eq).trans c1
    obtain ⟨H1, hH1⟩ : ∃ H1 : FW, H1 = (fpr (fpr (fp G 0 18 (G.1 3 9)) 0 13 (.ref p)) 0 14 (.ref t)) := ⟨_, rfl⟩
    rw [← hH1] at xH gH sH r13 r14 i18
    rw [← hH1]
    refine Pv.callV (as := [.ref 12, .ref p]) (rest := []) rfl rfl rfl (f_beginAs (xH.O7 (by decide) h12) (xH.O7 (by omega) hO) (by omega)) ?_
    rintro _ G2 ⟨rfl, bf⟩
    have g2 := GW.fx gH bf.1
    refine (show Pv _ _ 83 [some (.ref 0), some (.int z), some (.ref t)] [] G2 Q from ?_)
    refine Pv.aload rfl rfl ?_
    refine Pv.getR (v := .ref u) rfl rfl ((congrArg (fun z => z 0 15) bf.1.2.2.1).trans ((xH.1 0 15 (by decide)).trans hu)) ?_
    refine Pv.lit rfl ?_
    refine Pv.putI rfl rfl ?_
    refine Pv.aload rfl rfl ?_
    refine Pv.getR (v := .ref 10) rfl rfl (GW.at (a := 0) (k := 3) (b := 10) g2 (by decide)) ?_
    refine Pv.callV (as := [.ref 10]) (rest := []) (Q' := (fun r F' => Pv (ab_T (L_X10_strait Z_X8_moveInto Z_X7_readText Z_X6_beginAs Z_X2_forget)) N 98 [some (.ref 0), some (.int z), some (.ref t)] (r.toList ++ []) F' Q)) rfl rfl rfl ?_ (fun r F' h => h)
    refine Pm.of fun N3 => ?_
    obtain ⟨Q2, hQ2⟩ : ∃ Qx : Option Value → FW → Prop, Qx = (fun r F' => Pv (ab_T (L_X10_strait Z_X8_moveInto Z_X7_readText Z_X6_beginAs Z_X2_forget)) N 98 [some (.ref 0), some (.int z), some (.ref t)] (r.toList ++ []) F' Q) := ⟨_, rfl⟩
    rw [← hQ2]
    refine (show Pv (ab_T L_X2_forget) N3 0 [some (.ref 10)] [] (fp G2 u 5 0) Q2 from ?_)
    refine Pv.aload rfl rfl ?_
    refine Pv.lit rfl ?_
    refine Pv.putI rfl rfl ?_
    refine Pv.vret rfl ?_
    rw [hQ2]
    refine (show Pv (ab_T (L_X10_strait Z_X8_moveInto Z_X7_readText Z_X6_beginAs Z_X2_forget)) N 98 [some (.ref 0), some (.int z), some (.ref t)] [] (fp (fp G2 u 5 0) 10 1 0) Q from ?_)
    refine Pv.iload rfl rfl ?_
    have xE : CSF p u F (fp (fp G2 u 5 0) 10 1 0) := ((xH.b bf.1).p (Or.inr (Or.inl ⟨rfl, rfl⟩))).p (Or.inr (Or.inr ⟨rfl, rfl⟩))
    have e2 : ∀ a k, a ≠ u → a ≠ 10 → ((fp (fp G2 u 5 0) 10 1 0)).1 a k = G2.1 a k := fun a k c1 c2 => (fp_ne (Or.inl c2)).trans (fp_ne (Or.inl c1))
    exact Pv.ret rfl (by rw [hQ]; exact ⟨l, i, s, hl, Or.inl ⟨hst, by rw [ez], (sH.sm (fun k => by rw [bf.1.2.2.1]) (fun a k c1 c2 => bf.1.1 a k (by omega)) (fun a k c1 c2 => bf.1.2.1 a k (by omega))).sm (fun _ => rfl) (fun a k c1 c2 => e2 a k (by omega) (by omega)) (fun _ _ _ _ => rfl), (bf.v (by omega)).o (fun a k c => e2 a k (by omega) (by omega)), (congrArg (fun z => z 0 13) bf.1.2.2.1).trans r13, (congrArg (fun z => z 0 14) bf.1.2.2.1).trans r14, (e2 0 18 (by omega) (by decide)).trans ((bf.1.1 0 18 (by decide)).trans i18), (fp_ne (Or.inl (by omega))).trans fp_eq, fp_eq, xE⟩⟩)
  · skip
    replace c1 := of_decide_eq_false c1
    refine Pv.lit rfl ?_
    refine Pv.aload rfl rfl ?_
    refine Pv.getR (v := .ref 3) rfl rfl (GW.at (a := 0) (k := 1) (b := 3) gG (by decide)) ?_
    refine Pv.getI (z := G.1 3 6) rfl rfl (fp_ne (Or.inl (by decide))) ?_
    refine Pv.bin (z := (-1) - (G.1 3 6)) rfl (rfl) ?_
    obtain ⟨l, i, s, f, j, hl, h1, h2, h3, h4⟩ := hc.bad c1
    exact Pv.ret rfl (by rw [hQ]; exact ⟨l, i, s, hl, Or.inr ⟨f, j, _, h1, h2, rfl, h4.2.1, (congrArg Int32.toInt fp_eq).trans h3, ((hc.1.1.wd fun q c => Or.inr c).fp (Or.inl rfl)), fun k hk => (fp_ne (Or.inr hk)).trans (hc.1.1.1 0 k (by omega))⟩⟩)
end
-- 63.b9s.st.lean.txt
section
theorem sfh_srt {t : Nat → Nat} {hp : ab_H} {g p k g1 b : Nat} (H : sf_h t hp) (a1 : p < hp.1) (a2 : t p = g) (hg : g < 100) (hk : (sf_C g)[k]? = some (1, (g1 : Int), 0)) (e : (fl hp).2.1 p k = .ref b) : b < hp.1 ∧ t b = g1 := by
  have e' : gr hp p k = .ref b := e
  have c := H.1 p a1
  rw [a2] at c
  unfold sf_c at c
  unfold gr at e'
  split at c
  · rename_i o ho
    rw [ho] at e'
    dsimp only at e'
    obtain ⟨v, hv, hk'⟩ := c.2.2 k _ hk
    rw [hv] at e'
    unfold sf_v at hk'
    split at hk'
    · exact absurd hk'.1 (by show ¬ (1 : Nat) = 0; decide)
    · rename_i b'
      obtain ⟨-, hb, ht⟩ := hk'
      have ht' : (t b' : Int) = (g1 : Int) := ht
      obtain rfl := Value.ref.inj e'
      exact ⟨hb, by omega⟩
    · exact absurd hk'.2 (by show ¬ (0 : Int) = 1; decide)
    · exact absurd hk' (by show ¬ (1 : Nat) = 2; decide)
    · exact absurd hk' id
  · exact absurd c.1 (by omega)
theorem sfh_len {t : Nat → Nat} {hp : ab_H} {p : Nat} (H : sf_h t hp) (h14 : (fl hp).2.1 0 14 = .ref p) (o : O7 (fl hp) p) : (fl hp).2.2.2.2 (p + 4) = 48 := by
  obtain ⟨a1, a2⟩ := H.2.2.1 10 0 rfl
  obtain ⟨b1, b2⟩ := sfh_srt H a1 a2 (by decide) (k := 14) (g1 := 7) rfl h14
  have o3 := o 3 (by decide)
  rw [show p + 1 + 3 = p + 4 by omega] at o3
  obtain ⟨c1, c2⟩ := sfh_srt H b1 b2 (by decide) (k := 3) (g1 := 119) rfl o3
  have c := H.1 (p + 4) c1
  rw [c2] at c
  show gn hp (p + 4) = 48
  unfold sf_c at c
  unfold gn
  split at c
  · exact absurd c.2.1 (by decide)
  · rename_i x hx
    rw [hx]
    exact c.2.2.1
theorem mv_typed {t : Nat → Nat} {hp : ab_H} {x : Nat} (H : sf_h t hp) (hx : x ≤ 900) (hce : sf_cE kq_X8_moveInto_v Z_X8_moveInto ke_X8_moveInto_v) : ∀ o, Z_X8_moveInto [.ref 1, .ref 3, .int (Int32.ofNat x)] hp = some o → ∃ t', sf_h t' o.2 := by
  intro o e
  obtain ⟨a1, a2⟩ := H.2.2.1 8 1 rfl
  obtain ⟨b1, b2⟩ := H.2.2.1 9 3 rfl
  have xi : (Int32.ofNat x).toInt = x := i_toInt (by omega)
  obtain ⟨r, hp', t', e', H', -⟩ := hce t hp [.ref 1, .ref 3, .int (Int32.ofNat x)] H rfl (fun i j hj => match i, hj with
    | 0, hj => by cases hj; exact sf_j1 a1 a2
    | 1, hj => by cases hj; exact sf_j1 b1 b2
    | 2, hj => by cases hj; exact sf_j0
    | i + 3, hj => by cases hj) (sf_S_cons (sf_s1 (x := (Int32.ofNat x).toInt) rfl (by omega) (by omega)) sf_S_nil)
  obtain rfl := Option.some.inj (e.symm.trans e')
  exact ⟨t', H'⟩
set_option maxRecDepth 100000 in
set_option maxHeartbeats 4000000 in
theorem o_strait {tt : Nat → Nat} {hp : ab_H} {t p u tn : Nat} (Hs : sf_h tt hp) (hce : sf_cE kq_X8_moveInto_v Z_X8_moveInto ke_X8_moveInto_v) (hn : sf_rd hp 1 1 = some (tn : Int)) (hG : GW (fl hp)) (ht : (fl hp).2.1 0 13 = .ref t) (hp14 : (fl hp).2.1 0 14 = .ref p) (j0 : (t = 45 ∧ p = 53) ∨ (t = 53 ∧ p = 45)) (hu : (fl hp).2.1 0 15 = .ref u) (ju : u = 61 ∨ u = 65) (h12 : O7 (fl hp) 12) (hO : O7 (fl hp) p) (h88 : 88 ≤ (fl hp).2.2.2.1) : Pj Z_X10_strait [.ref 0] hp (fun v F' => ∃ F1, MVQ (fl hp) F1 (bv hp 2 tn) tn 900 ∧ CSW F1 F' (tok (bv hp 2 tn) tn 900) t p u v) := by
  have hw := wt_of Hs
  refine Pj.of fun N => ?_
  obtain ⟨Q, hQ⟩ : ∃ Q : Option Value → FW → Prop, Q = (fun v F' => ∃ F1, MVQ (fl hp) F1 (bv hp 2 tn) tn 900 ∧ CSW F1 F' (tok (bv hp 2 tn) tn 900) t p u v) := ⟨_, rfl⟩
  rw [← hQ]
  refine (show Pw (ab_T (L_X10_strait Z_X8_moveInto Z_X7_readText Z_X6_beginAs Z_X2_forget)) N 0 [some (.ref 0), none, none] [] hp Q from ?_)
  refine Pw.aload rfl rfl ?_
  refine Pw.getR (v := .ref 1) hw rfl rfl (GW.at (a := 0) (k := 0) (b := 1) hG (by decide)) ?_
  refine Pw.aload rfl rfl ?_
  refine Pw.getR (v := .ref 3) hw rfl rfl (GW.at (a := 0) (k := 1) (b := 3) hG (by decide)) ?_
  refine Pw.lit rfl ?_
  refine Pw.callV (as := [.ref 1, .ref 3, .int (Int32.ofNat 900)]) (rest := []) rfl rfl rfl (fun o e => ?_)
  obtain ⟨w, r0, q⟩ := mv_flat (x := 900) Hs (by omega) hce hG h88 hn o e
  obtain ⟨t', Ht⟩ := mv_typed (x := 900) Hs (by omega) hce o e
  rw [r0]
  refine Pw.v w ?_
  refine (show Pv (ab_T (L_X10_strait Z_X8_moveInto Z_X7_readText Z_X6_beginAs Z_X2_forget)) N 14 [some (.ref 0), none, none] [] (fl o.2) Q from ?_)
  have q' := q
  obtain ⟨z, g1, h4, h9, -, m, tk⟩ := q
  have z0 := (z.2 0 (by omega) (by decide)).2.1
  have zp : O7 (fl o.2) p := fun i hi => ((z.2 p (by omega) (mvp_n (by omega))).2.1 i).trans (hO i hi)
  have z14 := (z0 14).trans hp14
  refine Pv.imp (o_st14 g1 ((z0 13).trans ht) z14 j0 ((z0 15).trans hu) ju (fun i hi => ((z.2 12 (by omega) (by decide)).2.1 i).trans (h12 i hi)) zp (sfh_len Ht z14 zp) tk h4 h9 N) ?_
  rintro r F' x
  rw [hQ]
  exact ⟨fl o.2, q', x⟩
end
-- 63.b9t.ps.lean.txt
section
/-! ===== what a text of a Strait can say ===== -/
def PSK (s : PS) : Prop := PSB s ∧ (0 ≤ s.h 2 ∧ s.h 2 ≤ 40) ∧ (∀ k : Nat, k < 48 → 0 ≤ s.h (4 + k) ∧ s.h (4 + k) ≤ 250) ∧ (∀ m : Nat, (m : Int) < s.h 1 → s.h (52 + m) = 0 ∨ s.h (52 + m) = 1) ∧ (∀ i : Nat, (i : Int) < s.h 3 → (0 ≤ s.h (60 + i) ∧ s.h (60 + i) < s.h 1) ∧ 0 ≤ s.h (80 + i) ∧ s.h (80 + i) < s.h 1) ∧ ∀ i j : Nat, (i : Int) < s.h 3 → (j : Int) < s.h 3 → s.h (60 + i) = s.h (60 + j) → s.h (80 + i) = s.h (80 + j) → i = j
def PK (x : LR) : Prop := ∀ s j, x = LR.ok s j → PSK s
theorem PK.b {j : Nat} {f : Int} : PK (LR.bad f j) := fun s' j' e => by cases e
theorem PK.o {j : Nat} {s : PS} (h : PSK s) : PK (LR.ok s j) := fun s' j' e => by
  have e2 := Sum.inl.inj e
  rw [← (Prod.mk.inj e2).1]
  exact h
theorem PK.num {T : Nat → TT} {j : Nat} {lo hi : Int} {k : Int → LR} (h : ∀ v, lo ≤ v → v ≤ hi → PK (k v)) : PK (lnum T j lo hi k) := by
  unfold lnum
  split
  · exact PK.b
  · split
    · exact PK.b
    · next c => exact h _ (by omega) (by omega)
theorem PK.new {T : Nat → TT} {s : PS} {j : Nat} {k : Int → LR} (h : ∀ v, PK (k v)) : PK (lnew T s j k) := by
  unfold lnew
  split
  · exact PK.b
  · split
    · exact PK.b
    · exact h _
theorem fndf_b {nm : Nat → Int} {o : Nat} {v : Int} : ∀ {f k : Nat}, fndf nm o v f k = -1 ∨ ((k : Int) ≤ fndf nm o v f k ∧ fndf nm o v f k < (k : Int) + f)
  | 0, _ => Or.inl rfl
  | f + 1, k => by
    show (if nm (o + k) = v then (k : Int) else fndf nm o v f (k + 1)) = -1 ∨ _ ≤ (if nm (o + k) = v then (k : Int) else fndf nm o v f (k + 1)) ∧ (if nm (o + k) = v then (k : Int) else fndf nm o v f (k + 1)) < _
    by_cases c : nm (o + k) = v
    · rw [if_pos c]
      exact Or.inr ⟨by omega, by omega⟩
    · rw [if_neg c]
      rcases fndf_b (nm := nm) (o := o) (v := v) (f := f) (k := k + 1) with h | h
      · exact Or.inl h
      · exact Or.inr ⟨by omega, by omega⟩
theorem PK.old {T : Nat → TT} {s : PS} {o j : Nat} {n : Int} {k : Int → LR} (hn : 0 ≤ n) (h : ∀ v, 0 ≤ v → v < n → PK (k v)) : PK (lold T s o n j k) := by
  unfold lold
  split
  · exact PK.b
  · split
    · exact PK.b
    · next c =>
      have b := fndf_b (nm := s.nm) (o := o) (v := (T j).v) (f := n.toNat) (k := 0)
      have e : fnd s.nm o n (T j).v = fndf s.nm o (T j).v n.toNat 0 := rfl
      rw [← e] at b
      exact h _ (by omega) (by omega)
theorem PSK.load {s : PS} {v : Int} {nm : Nat → Int} {b : Bool} {tl : Nat → Bool} (h : PSK s) (h1 : 1 ≤ v) (h2 : v ≤ 40) : PSK (ups s.h 2 v, nm, b, tl) := by
  obtain ⟨H, hH⟩ : ∃ H, H = ups s.h 2 v := ⟨_, rfl⟩
  have e : ∀ j, j ≠ 2 → H j = s.h j := fun j hj => by rw [hH, ups_ne hj]
  have e2 : H 2 = v := by rw [hH, ups_eq]
  rw [← hH]
  obtain ⟨p0, p1, p2, p3, p4, p5⟩ := h
  unfold PSB at p0
  show (0 ≤ H 0 ∧ H 0 ≤ 6 ∧ 0 ≤ H 1 ∧ H 1 ≤ 8 ∧ 0 ≤ H 3 ∧ H 3 ≤ 20) ∧ (0 ≤ H 2 ∧ H 2 ≤ 40) ∧ (∀ k : Nat, k < 48 → 0 ≤ H (4 + k) ∧ H (4 + k) ≤ 250) ∧ (∀ m : Nat, (m : Int) < H 1 → H (52 + m) = 0 ∨ H (52 + m) = 1) ∧ (∀ i : Nat, (i : Int) < H 3 → (0 ≤ H (60 + i) ∧ H (60 + i) < H 1) ∧ 0 ≤ H (80 + i) ∧ H (80 + i) < H 1) ∧ ∀ i j : Nat, (i : Int) < H 3 → (j : Int) < H 3 → H (60 + i) = H (60 + j) → H (80 + i) = H (80 + j) → i = j
  rw [e 0 (by decide), e 1 (by decide), e 3 (by decide), e2]
  refine ⟨p0, by omega, fun k hk => ?_, fun m hm => ?_, fun i hi => ?_, fun i j hi hj c1 c2 => ?_⟩
  · rw [e _ (by omega)]
    exact p2 k hk
  · rw [e _ (by omega)]
    exact p3 m hm
  · rw [e _ (by omega), e _ (by omega)]
    exact p4 i hi
  · rw [e _ (by omega), e _ (by omega)] at c1 c2
    exact p5 i j hi hj c1 c2
theorem PSK.good {s : PS} {nm : Nat → Int} {b : Bool} {tl : Nat → Bool} (h : PSK s) (h6 : ¬ 6 ≤ s.h 0) : PSK (ups s.h 0 (s.h 0 + 1), nm, b, tl) := by
  obtain ⟨H, hH⟩ : ∃ H, H = ups s.h 0 (s.h 0 + 1) := ⟨_, rfl⟩
  have e : ∀ j, j ≠ 0 → H j = s.h j := fun j hj => by rw [hH, ups_ne hj]
  have e0 : H 0 = s.h 0 + 1 := by rw [hH, ups_eq]
  rw [← hH]
  obtain ⟨p0, p1, p2, p3, p4, p5⟩ := h
  unfold PSB at p0
  show (0 ≤ H 0 ∧ H 0 ≤ 6 ∧ 0 ≤ H 1 ∧ H 1 ≤ 8 ∧ 0 ≤ H 3 ∧ H 3 ≤ 20) ∧ (0 ≤ H 2 ∧ H 2 ≤ 40) ∧ (∀ k : Nat, k < 48 → 0 ≤ H (4 + k) ∧ H (4 + k) ≤ 250) ∧ (∀ m : Nat, (m : Int) < H 1 → H (52 + m) = 0 ∨ H (52 + m) = 1) ∧ (∀ i : Nat, (i : Int) < H 3 → (0 ≤ H (60 + i) ∧ H (60 + i) < H 1) ∧ 0 ≤ H (80 + i) ∧ H (80 + i) < H 1) ∧ ∀ i j : Nat, (i : Int) < H 3 → (j : Int) < H 3 → H (60 + i) = H (60 + j) → H (80 + i) = H (80 + j) → i = j
  rw [e0, e 1 (by decide), e 3 (by decide), e 2 (by decide)]
  refine ⟨by omega, p1, fun k hk => ?_, fun m hm => ?_, fun i hi => ?_, fun i j hi hj c1 c2 => ?_⟩
  · rw [e _ (by omega)]
    exact p2 k hk
  · rw [e _ (by omega)]
    exact p3 m hm
  · rw [e _ (by omega), e _ (by omega)]
    exact p4 i hi
  · rw [e _ (by omega), e _ (by omega)] at c1 c2
    exact p5 i j hi hj c1 c2
theorem PSK.man {s : PS} {d : Int} {nm : Nat → Int} {b : Bool} {tl : Nat → Bool} (h : PSK s) (h8 : ¬ 8 ≤ s.h 1) (d0 : 0 ≤ d) (d1 : d ≤ 1) : PSK (ups (ups s.h (52 + (s.h 1).toNat) d) 1 (s.h 1 + 1), nm, b, tl) := by
  obtain ⟨p0, p1, p2, p3, p4, p5⟩ := h
  unfold PSB at p0
  obtain ⟨m, hm⟩ : ∃ m : Nat, s.h 1 = (m : Int) := ⟨(s.h 1).toNat, by omega⟩
  obtain ⟨H, hH⟩ : ∃ H, H = ups (ups s.h (52 + (s.h 1).toNat) d) 1 (s.h 1 + 1) := ⟨_, rfl⟩
  have tm : (s.h 1).toNat = m := by omega
  rw [tm] at hH
  have e : ∀ j, j ≠ 1 → j ≠ 52 + m → H j = s.h j := fun j h1 h2 => by rw [hH, ups_ne h1, ups_ne h2]
  have e1 : H 1 = s.h 1 + 1 := by rw [hH, ups_eq]
  have ed : H (52 + m) = d := by rw [hH, ups_ne (by omega), ups_eq]
  rw [tm, ← hH]
  show (0 ≤ H 0 ∧ H 0 ≤ 6 ∧ 0 ≤ H 1 ∧ H 1 ≤ 8 ∧ 0 ≤ H 3 ∧ H 3 ≤ 20) ∧ (0 ≤ H 2 ∧ H 2 ≤ 40) ∧ (∀ k : Nat, k < 48 → 0 ≤ H (4 + k) ∧ H (4 + k) ≤ 250) ∧ (∀ m : Nat, (m : Int) < H 1 → H (52 + m) = 0 ∨ H (52 + m) = 1) ∧ (∀ i : Nat, (i : Int) < H 3 → (0 ≤ H (60 + i) ∧ H (60 + i) < H 1) ∧ 0 ≤ H (80 + i) ∧ H (80 + i) < H 1) ∧ ∀ i j : Nat, (i : Int) < H 3 → (j : Int) < H 3 → H (60 + i) = H (60 + j) → H (80 + i) = H (80 + j) → i = j
  rw [e1, e 0 (by decide) (by omega), e 3 (by decide) (by omega), e 2 (by decide) (by omega)]
  refine ⟨by omega, p1, fun k hk => ?_, fun k hk => ?_, fun i hi => ?_, fun i j hi hj c1 c2 => ?_⟩
  · rw [e _ (by omega) (by omega)]
    exact p2 k hk
  · by_cases c : k = m
    · rw [c, ed]
      omega
    · rw [e _ (by omega) (by omega)]
      exact p3 k (by omega)
  · rw [e _ (by omega) (by omega), e _ (by omega) (by omega)]
    have := p4 i hi
    omega
  · rw [e _ (by omega) (by omega), e _ (by omega) (by omega)] at c1 c2
    exact p5 i j hi hj c1 c2
theorem PSK.miss {s : PS} {m o d : Int} {x : (Nat → Int) × Bool × (Nat → Bool)} (h : PSK s) (h20 : ¬ 20 ≤ s.h 3) (m0 : 0 ≤ m) (m1 : m < s.h 1) (o0 : 0 ≤ o) (o1 : o < s.h 1) (ht : mtold s.h m o (s.h 3).toNat = false) : PSK (ups (ups (ups (ups s.h (60 + (s.h 3).toNat) m) (80 + (s.h 3).toNat) o) (100 + (s.h 3).toNat) d) 3 (s.h 3 + 1), x) := by
  obtain ⟨p0, p1, p2, p3, p4, p5⟩ := h
  unfold PSB at p0
  obtain ⟨q, hq⟩ : ∃ q : Nat, s.h 3 = (q : Int) := ⟨(s.h 3).toNat, by omega⟩
  have tq : (s.h 3).toNat = q := by omega
  rw [tq] at ht ⊢
  obtain ⟨H, hH⟩ : ∃ H, H = ups (ups (ups (ups s.h (60 + q) m) (80 + q) o) (100 + q) d) 3 (s.h 3 + 1) := ⟨_, rfl⟩
  have e : ∀ j, j ≠ 3 → j ≠ 60 + q → j ≠ 80 + q → j ≠ 100 + q → H j = s.h j := fun j h1 h2 h3 h4 => by rw [hH, ups_ne h1, ups_ne h4, ups_ne h3, ups_ne h2]
  have e3 : H 3 = s.h 3 + 1 := by rw [hH, ups_eq]
  have e6 : H (60 + q) = m := by rw [hH, ups_ne (by omega), ups_ne (by omega), ups_ne (by omega), ups_eq]
  have e8 : H (80 + q) = o := by rw [hH, ups_ne (by omega), ups_ne (by omega), ups_eq]
  have nt : ∀ i : Nat, i < q → ¬ (s.h (60 + i) = m ∧ s.h (80 + i) = o) := fun i hi c => by
    rw [mtold_y hi c.1 c.2] at ht
    cases ht
  rw [← hH]
  show (0 ≤ H 0 ∧ H 0 ≤ 6 ∧ 0 ≤ H 1 ∧ H 1 ≤ 8 ∧ 0 ≤ H 3 ∧ H 3 ≤ 20) ∧ (0 ≤ H 2 ∧ H 2 ≤ 40) ∧ (∀ k : Nat, k < 48 → 0 ≤ H (4 + k) ∧ H (4 + k) ≤ 250) ∧ (∀ m : Nat, (m : Int) < H 1 → H (52 + m) = 0 ∨ H (52 + m) = 1) ∧ (∀ i : Nat, (i : Int) < H 3 → (0 ≤ H (60 + i) ∧ H (60 + i) < H 1) ∧ 0 ≤ H (80 + i) ∧ H (80 + i) < H 1) ∧ ∀ i j : Nat, (i : Int) < H 3 → (j : Int) < H 3 → H (60 + i) = H (60 + j) → H (80 + i) = H (80 + j) → i = j
  rw [e3, e 0 (by decide) (by omega) (by omega) (by omega), e 1 (by decide) (by omega) (by omega) (by omega), e 2 (by decide) (by omega) (by omega) (by omega)]
  refine ⟨by omega, p1, fun k hk => ?_, fun k hk => ?_, fun i hi => ?_, fun i j hi hj c1 c2 => ?_⟩
  · rw [e _ (by omega) (by omega) (by omega) (by omega)]
    exact p2 k hk
  · rw [e _ (by omega) (by omega) (by omega) (by omega)]
    exact p3 k hk
  · by_cases c : i = q
    · rw [c, e6, e8]
      exact ⟨⟨m0, m1⟩, o0, o1⟩
    · rw [e _ (by omega) (by omega) (by omega) (by omega), e _ (by omega) (by omega) (by omega) (by omega)]
      exact p4 i (by omega)
  · by_cases ci : i = q
    · by_cases cj : j = q
      · omega
      · exfalso
        rw [ci, e6, e _ (by omega) (by omega) (by omega) (by omega)] at c1
        rw [ci, e8, e _ (by omega) (by omega) (by omega) (by omega)] at c2
        exact nt j (by omega) ⟨c1.symm, c2.symm⟩
    · by_cases cj : j = q
      · exfalso
        rw [cj, e6, e _ (by omega) (by omega) (by omega) (by omega)] at c1
        rw [cj, e8, e _ (by omega) (by omega) (by omega) (by omega)] at c2
        exact nt i (by omega) ⟨c1, c2⟩
      · rw [e _ (by omega) (by omega) (by omega) (by omega), e _ (by omega) (by omega) (by omega) (by omega)] at c1 c2
        exact p5 i j (by omega) (by omega) c1 c2
theorem PSK.amt {s : PS} {x : Nat} {a : Int} {y : (Nat → Int) × Bool × (Nat → Bool)} (h : PSK s) (hx : x < 48) (a0 : 0 ≤ a) (a1 : a ≤ 250) : PSK (ups s.h (4 + x) a, y) := by
  obtain ⟨H, hH⟩ : ∃ H, H = ups s.h (4 + x) a := ⟨_, rfl⟩
  have e : ∀ j, j ≠ 4 + x → H j = s.h j := fun j hj => by rw [hH, ups_ne hj]
  have ea : H (4 + x) = a := by rw [hH, ups_eq]
  rw [← hH]
  obtain ⟨p0, p1, p2, p3, p4, p5⟩ := h
  unfold PSB at p0
  show (0 ≤ H 0 ∧ H 0 ≤ 6 ∧ 0 ≤ H 1 ∧ H 1 ≤ 8 ∧ 0 ≤ H 3 ∧ H 3 ≤ 20) ∧ (0 ≤ H 2 ∧ H 2 ≤ 40) ∧ (∀ k : Nat, k < 48 → 0 ≤ H (4 + k) ∧ H (4 + k) ≤ 250) ∧ (∀ m : Nat, (m : Int) < H 1 → H (52 + m) = 0 ∨ H (52 + m) = 1) ∧ (∀ i : Nat, (i : Int) < H 3 → (0 ≤ H (60 + i) ∧ H (60 + i) < H 1) ∧ 0 ≤ H (80 + i) ∧ H (80 + i) < H 1) ∧ ∀ i j : Nat, (i : Int) < H 3 → (j : Int) < H 3 → H (60 + i) = H (60 + j) → H (80 + i) = H (80 + j) → i = j
  rw [e 0 (by omega), e 1 (by omega), e 3 (by omega), e 2 (by omega)]
  refine ⟨p0, p1, fun k hk => ?_, fun m hm => ?_, fun i hi => ?_, fun i j hi hj c1 c2 => ?_⟩
  · by_cases c : k = x
    · rw [c, ea]
      exact ⟨a0, a1⟩
    · rw [e _ (by omega)]
      exact p2 k hk
  · rw [e _ (by omega)]
    exact p3 m hm
  · rw [e _ (by omega), e _ (by omega)]
    exact p4 i hi
  · rw [e _ (by omega), e _ (by omega)] at c1 c2
    exact p5 i j hi hj c1 c2
theorem PK.x {T : Nat → TT} {s : PS} {i : Nat} (h : PSK s) : PK (lnx T s i) := by
  have b := h.1
  unfold PSB at b
  unfold lnx
  split
  · unfold lnLoad
    split
    · exact PK.b
    · exact PK.num fun v h1 h2 => PK.o (h.load h1 h2)
  · split
    · unfold lnGood
      split
      · exact PK.b
      · next c => exact PK.new fun _ => PK.o (h.good c)
    · split
      · unfold lnMan
        split
        · exact PK.b
        · next c => exact PK.new fun _ => PK.num fun d h1 h2 => PK.o (h.man c h1 h2)
      · split
        · unfold lnMiss
          split
          · exact PK.b
          · next c20 =>
            refine PK.old (by omega) fun m m0 m1 => PK.old (by omega) fun o o0 o1 => ?_
            split
            · exact PK.b
            · next c => exact PK.num fun d _ _ => PK.o (h.miss c20 m0 m1 o0 o1 (Bool.not_eq_true _ |>.mp fun z => c (Or.inr z)))
        · split
          · next hk =>
            unfold lnAmt
            refine PK.old (by omega) fun g g0 g1 => PK.num fun d d0 d1 => ?_
            split
            · exact PK.b
            · refine PK.num fun a a0 a1 => PK.o (h.amt (by omega) a0 ?_)
              split at a1 <;> omega
          · exact PK.b
theorem lns_psk {T : Nat → TT} : ∀ {l i : Nat} {s : PS}, lns T l = some (s, i) → PSK s
  | 0, i, s, h => by
    obtain ⟨rfl, -⟩ := Prod.mk.inj (Option.some.inj (show some (s0, 0) = some (s, i) from h))
    exact ⟨show (0 : Int) ≤ 0 ∧ (0 : Int) ≤ 6 ∧ (0 : Int) ≤ 0 ∧ (0 : Int) ≤ 8 ∧ (0 : Int) ≤ 0 ∧ (0 : Int) ≤ 20 by decide, show (0 : Int) ≤ 10 ∧ (10 : Int) ≤ 40 by decide, fun k hk => by
      show 0 ≤ (if 4 + k = 2 then (10 : Int) else 0) ∧ (if 4 + k = 2 then (10 : Int) else 0) ≤ 250
      rw [if_neg (by omega)]
      decide, fun m hm => absurd (show (m : Int) < 0 from hm) (by omega), fun m hm => absurd (show (m : Int) < 0 from hm) (by omega), fun m _ hm => absurd (show (m : Int) < 0 from hm) (by omega)⟩
  | l + 1, i, s, h => by
    have h' : nxt T (lns T l) = some (s, i) := h
    cases e : lns T l with
    | none =>
      rw [e] at h'
      cases h'
    | some y =>
      obtain ⟨s1, i1⟩ := y
      rw [e] at h'
      have ih := lns_psk e
      have h2 : (if (T i1).k = 0 then none else lnj T (lnx T s1 i1)) = some (s, i) := h'
      by_cases k0 : (T i1).k = 0
      · rw [if_pos k0] at h2
        cases h2
      · rw [if_neg k0] at h2
        cases el : lnx T s1 i1 with
        | inr z =>
          rw [el] at h2
          cases h2
        | inl z =>
          obtain ⟨s2, j⟩ := z
          rw [el] at h2
          have h3 : (if (T j).k = 59 then some (s2, j + 1) else none) = some (s, i) := h2
          by_cases k5 : (T j).k = 59
          · rw [if_pos k5] at h3
            obtain ⟨rfl, -⟩ := Prod.mk.inj (Option.some.inj h3)
            exact PK.x ih _ _ el
          · rw [if_neg k5] at h3
            cases h3
end
-- 63.b9u.ps.lean.txt
section
theorem i_ofI {x : Int32} {v : Int} (h : x.toInt = v) : x = Int32.ofInt v := by
  rw [← h, Int32.ofInt_toInt]
theorem i_ofN {x : Int32} {v : Int} (h : x.toInt = v) (h0 : 0 ≤ v) : x = Int32.ofNat v.toNat := i_ofv h h0
theorem toI_of {v : Int} (h0 : -2147483648 ≤ v) (h1 : v ≤ 2147483647) : (Int32.ofInt v).toInt = v := Int32.toInt_ofInt_of_le (by omega) (by omega)
def psT (s : PS) : St := ((s.h 0).toNat, (s.h 1).toNat, (s.h 3).toNat, Int32.ofInt (s.h 2), fun k => Int32.ofInt (s.h (4 + k)), fun i => (s.h (60 + i)).toNat, fun i => (s.h (80 + i)).toNat, fun i => Int32.ofInt (s.h (100 + i)), fun m => Int32.ofInt (s.h (52 + m)))
def psS (T : St) : Sh := (fun k => t_a T (0 * 12 + k), fun _ => 0, fun _ => 0, fun _ => 0, t_fs T, fun _ => 0, fun _ => 0, 0, 0, 0)
theorem psT_w {s : PS} (h : PSK s) : TW (psT s) := by
  obtain ⟨p0, p1, p2, p3, p4, p5⟩ := h
  unfold PSB at p0
  refine ⟨show (s.h 0).toNat ≤ 6 by omega, show (s.h 1).toNat ≤ 8 by omega, show (s.h 3).toNat ≤ 20 by omega, fun i hi => ?_, fun i j hi hj c1 c2 => ?_⟩
  · have hi' : i < (s.h 3).toNat := hi
    have := p4 i (by omega)
    exact ⟨show (s.h (60 + i)).toNat < (s.h 1).toNat by omega, show (s.h (80 + i)).toNat < (s.h 1).toNat by omega⟩
  · have hi' : i < (s.h 3).toNat := hi
    have hj' : j < (s.h 3).toNat := hj
    have a := p4 i (by omega)
    have b := p4 j (by omega)
    have c1' : (s.h (60 + i)).toNat = (s.h (60 + j)).toNat := c1
    have c2' : (s.h (80 + i)).toNat = (s.h (80 + j)).toNat := c2
    exact p5 i j (by omega) (by omega) (by omega) (by omega)
theorem psT_b {s : PS} (h : PSK s) : TBB (psT s) := by
  obtain ⟨p0, p1, p2, p3, p4, p5⟩ := h
  refine ⟨?_, ?_, fun k hk => ?_⟩
  · show 0 ≤ (Int32.ofInt (s.h 2)).toInt
    rw [toI_of (by omega) (by omega)]
    omega
  · show (Int32.ofInt (s.h 2)).toInt ≤ 40
    rw [toI_of (by omega) (by omega)]
    omega
  · have := p2 k hk
    show 0 ≤ (Int32.ofInt (s.h (4 + k))).toInt ∧ (Int32.ofInt (s.h (4 + k))).toInt ≤ 250
    rw [toI_of (by omega) (by omega)]
    exact this
theorem psS_i {s : PS} (h : PSK s) : INV (psT s) (psS (psT s)) := by
  have b := psT_b h
  obtain ⟨p0, p1, p2, p3, p4, p5⟩ := h
  refine ⟨fun k hk => ?_, fun k hk => ?_, fun k hk => ?_, fun m _ => ⟨show (0 : Int) ≤ 0 by decide, show (0 : Int) ≤ ((0 : Nat) : Int) by decide⟩, fun k _ => ⟨show (0 : Int) ≤ 0 by decide, show (0 : Int) ≤ 40 * ((0 : Nat) : Int) by decide⟩, Nat.zero_le _⟩
  · have := b.2.2 (0 * 12 + k) (by omega)
    exact ⟨this.1, show (t_a (psT s) (0 * 12 + k)).toInt ≤ 999 by omega⟩
  · have := b.2.2 (0 * 12 + k) (by omega)
    refine ⟨show (0 : Int) ≤ 0 by decide, ?_⟩
    show (t_a (psT s) (0 * 12 + k)).toInt + (0 : Int32).toInt ≤ 250 + 290 * ((0 : Nat) : Int)
    have z : (0 : Int32).toInt = 0 := rfl
    omega
  · have hk' : k < (s.h 1).toNat := hk
    show Int32.ofInt (s.h (52 + k)) = -1 ∨ Int32.ofInt (s.h (52 + k)) = 0 ∨ Int32.ofInt (s.h (52 + k)) = 1
    rcases p3 k (by omega) with e | e <;> rw [e]
    · exact Or.inr (Or.inl rfl)
    · exact Or.inr (Or.inr rfl)
theorem SCF.tr {F : FW} {r : Nat} {s : PS} (h : SCF F r s) (k : PSK s) : TR F r (psT s) := by
  have b := k.1
  unfold PSB at b
  refine ⟨h.o, psT_w k, i_ofI h.l, i_ofN h.n0 (by omega), i_ofN h.n1 (by omega), i_ofN h.n3 (by omega), fun i hi => i_ofI (h.am hi), fun i hi => ?_, fun i hi => ?_, fun i hi => ?_, fun i hi => ?_⟩
  · have hi' : i < (s.h 3).toNat := hi
    exact i_ofN (h.ms (by omega)).1 (k.2.2.2.2.1 i (by omega)).1.1
  · have hi' : i < (s.h 3).toNat := hi
    exact i_ofN (h.ms (by omega)).2.1 (k.2.2.2.2.1 i (by omega)).2.1
  · have hi' : i < (s.h 3).toNat := hi
    exact i_ofI (h.ms (by omega)).2.2
  · have hi' : i < (s.h 1).toNat := hi
    exact i_ofI (h.fs (by omega))
theorem SCF.nmc {F : FW} {r : Nat} {s : PS} (h : SCF F r s) : NMC F r (psT s) s.nm := ⟨fun g hg => by
    have hg' : g < (s.h 0).toNat := hg
    exact h.gn (by omega), fun g hg => by
    have hg' : g < (s.h 1).toNat := hg
    exact h.mn (by omega)⟩
theorem BGV.sh {F : FW} {p : Nat} {s : PS} (h : BGV F p) (hs : SCF F p s) (o : O7 F 12) : SHR F 12 (t_m (psT s)) (psS (psT s)) := by
  have b := hs.b
  unfold PSB at b
  refine ⟨o, Nat.zero_le _, fun j hj => (h.1 j hj).1.trans (i_ofI (hs.am (by omega))), fun j hj => (h.1 j hj).2.1, fun j hj => (h.1 j hj).2.2.1, fun j hj => (h.1 j hj).2.2.2, fun j hj => ?_, fun j hj => ?_, fun j hj => h.2.2.1 j hj, h.2.2.2.1, h.2.2.2.2.1, h.2.2.2.2.2⟩
  · have hj' : j < (s.h 1).toNat := hj
    exact (h.2.1 j (by omega)).1.trans (i_ofI (hs.fs (by omega)))
  · have hj' : j < (s.h 1).toNat := hj
    exact (h.2.1 j (by omega)).2
theorem STE.xt {K G : FW} {s : PS} (h : STE K G) (hs : SRF K s) (k : PSK s) : XT G (psT s) := by
  have b := k.1
  unfold PSB at b
  have q : ∀ i, i < 120 → (G.1 71 i).toInt = s.h i := fun i hi => by
    rw [h.2.2.2.2.2.1 i hi]
    exact hs.h hi
  refine ⟨psT_w k, i_ofN (q 0 (by omega)) (by omega), i_ofN (q 1 (by omega)) (by omega), i_ofI (q 2 (by omega)), i_ofN (q 3 (by omega)) (by omega), fun j hj => ?_, fun j hj => ?_, fun j hj => ?_, fun j hj => ?_, fun j hj => ?_, fun j hj => ?_, fun j hj => ?_, fun j hj => ?_⟩
  · exact (i_ofI (q (4 + j) (by omega))).trans (by show _ = Int32.ofInt (s.h (4 + (0 * 12 + j))); rw [show 4 + (0 * 12 + j) = 4 + j by omega])
  · exact (i_ofI (q (16 + j) (by omega))).trans (by show _ = Int32.ofInt (s.h (4 + (1 * 12 + j))); rw [show 4 + (1 * 12 + j) = 16 + j by omega])
  · exact (i_ofI (q (28 + j) (by omega))).trans (by show _ = Int32.ofInt (s.h (4 + (24 + j))); rw [show 4 + (24 + j) = 28 + j by omega])
  · exact (i_ofI (q (40 + j) (by omega))).trans (by show _ = Int32.ofInt (s.h (4 + (36 + j))); rw [show 4 + (36 + j) = 40 + j by omega])
  · have hj' : j < (s.h 3).toNat := hj
    exact i_ofN (q (60 + j) (by omega)) (k.2.2.2.2.1 j (by omega)).1.1
  · have hj' : j < (s.h 3).toNat := hj
    exact i_ofN (q (80 + j) (by omega)) (k.2.2.2.2.1 j (by omega)).2.1
  · have hj' : j < (s.h 3).toNat := hj
    exact i_ofI (q (100 + j) (by omega))
  · have hj' : j < (s.h 1).toNat := hj
    exact i_ofI (q (52 + j) (by omega))
theorem m_sum_0 : ∀ n, m_sum (fun _ => (0 : Int32)) n = 0
  | 0 => rfl
  | n + 1 => by
    show m_sum (fun _ => (0 : Int32)) n + 0 = 0
    rw [m_sum_0 n]
    rfl
theorem STE.xs {K G : FW} {s : PS} (h : STE K G) (hs : SRF K s) (k : PSK s) : XS G (t_m (psT s)) (psS (psT s)) := by
  have b := k.1
  unfold PSB at b
  obtain ⟨-, -, -, -, -, c1, c2, c3, c4⟩ := h
  have z : ∀ i, 120 ≤ i → i < 434 → (i < 124 ∨ 136 ≤ i) → (i < 172 ∨ 180 ≤ i) → G.1 71 i = 0 := c4
  refine ⟨Nat.zero_le _, z 120 (by omega) (by omega) (by omega) (by omega), z 121 (by omega) (by omega) (by omega) (by omega), z 122 (by omega) (by omega) (by omega) (by omega), (z 123 (by omega) (by omega) (by omega) (by omega)).trans (m_sum_0 12).symm, fun j hj => ?_, fun j hj => z (136 + j) (by omega) (by omega) (by omega) (by omega), fun j hj => z (148 + j) (by omega) (by omega) (by omega) (by omega), fun j hj => z (160 + j) (by omega) (by omega) (by omega) (by omega), fun j hj => ?_, fun j hj _ => ?_, fun j hj => ?_, fun i j hi hj _ _ _ => ?_⟩
  · exact ((c2 j hj).trans (i_ofI (hs.h (by omega)))).trans (by show _ = Int32.ofInt (s.h (4 + (0 * 12 + j))); rw [show 4 + (0 * 12 + j) = 4 + j by omega])
  · have hj' : j < (s.h 1).toNat := hj
    rw [z 180 (by omega) (by omega) (by omega) (by omega), xbit_bt (by omega), bt_0]
    show false = !(!decide (Int32.ofInt (s.h (52 + j)) = -1))
    rcases k.2.2.2.1 j (by omega) with e | e <;> rw [e] <;> rfl
  · have hj' : j < (s.h 1).toNat := hj
    exact (c3 j (by omega)).trans (i_ofI (hs.h (by omega)))
  · have hj' : j < (s.h 1).toNat := hj
    exact z (181 + j) (by omega) (by omega) (by omega) (by omega)
  · have hi' : i < (s.h 1).toNat := hi
    have hj' : j < (s.h 1).toNat := hj
    rw [z (189 + 8 * i + j) (by omega) (by omega) (by omega) (by omega)]
    show (0 : Int32) = (if j < i then 0 else 0)
    split <;> rfl
theorem STE.ng {K G : FW} {s : PS} (h : STE K G) (hs : SRF K s) : (∀ g, g < t_g (psT s) → (G.2.2.1 74 (0 + g)).toInt = s.nm (0 + g)) ∧ ∀ g, g < t_m (psT s) → (G.2.2.1 74 (6 + g)).toInt = s.nm (6 + g) := by
  have b := hs.b
  unfold PSB at b
  refine ⟨fun g hg => ?_, fun g hg => ?_⟩
  · have hg' : g < (s.h 0).toNat := hg
    rw [h.2.2.2.2.1 (0 + g) (by omega), show 14 + (0 + g) = 14 + g by omega, show 0 + g = g by omega]
    exact hs.2.2.2.1 g (by omega)
  · have hg' : g < (s.h 1).toNat := hg
    rw [h.2.2.2.2.1 (6 + g) (by omega), show 14 + (6 + g) = 20 + g by omega]
    exact hs.2.2.2.2.1 g (by omega)
end
-- 63.b9v.rel.lean.txt
section
/-! ===== both sides alike ===== -/
/-- table, names, state, how much of the past, the past, images -/
abbrev Imx : Type := St × (Nat → Int) × Sh
abbrev DD : Type := St × (Nat → Int) × Sh × Nat × (Nat → Sh) × (Nat → Option Imx)
def dT (D : DD) : St := D.1
def dN (D : DD) : Nat → Int := D.2.1
def dS (D : DD) : Sh := D.2.2.1
def dn (D : DD) : Nat := D.2.2.2.1
def dH (D : DD) : Nat → Sh := D.2.2.2.2.1
def dI (D : DD) : Nat → Option Imx := D.2.2.2.2.2
def IMC (F : FW) (k v : Nat) (o : Option Imx) : Prop := match o with
  | none => F.2.1 41 k = .null
  | some x => ∃ E, IMV F k v (x.1, x.2.1, x.2.2, E)
def IMS (F : FW) (I : Nat → Option Imx) : Prop := ∃ vs : Nat → Nat, (∀ k, k < 2 → IMC F k (vs k) (I k)) ∧ ((I 0).isSome = true → (I 1).isSome = true → vs 0 + 21 ≤ vs 1 ∨ vs 1 + 21 ≤ vs 0)
def CSL (F : FW) (T : St) (nm : Nat → Int) : Prop := ∃ t p : Nat, ((t = 45 ∧ p = 53) ∨ (t = 53 ∧ p = 45)) ∧ F.2.1 0 13 = .ref t ∧ F.2.1 0 14 = .ref p ∧ TR F t T ∧ NMC F t T nm
def CSE (F : FW) : Prop := ∃ u v : Nat, ((u = 61 ∧ v = 65) ∨ (u = 65 ∧ v = 61)) ∧ F.2.1 0 15 = .ref u ∧ F.2.1 0 16 = .ref v
def CR (F : FW) (D : DD) : Prop := GW F ∧ 88 ≤ F.2.2.2.1 ∧ CSL F (dT D) (dN D) ∧ CSE F ∧ SHR F 12 (t_m (dT D)) (dS D) ∧ HST F (t_m (dT D)) (dn D) (dH D) ∧ IMS F (dI D)
def IXC (F : FW) (k : Nat) (o : Option Imx) : Prop := match o with
  | none => F.1 86 k = 0
  | some x => ¬ F.1 86 k = 0 ∧ XT (fcp F 84 71 (434 * k) 0 434) x.1 ∧ XS (fcp F 84 71 (434 * k) 0 434) (t_m x.1) x.2.2 ∧ (∀ g, g < t_g x.1 → (F.2.2.1 85 (14 * k + (0 + g))).toInt = x.2.1 (0 + g)) ∧ ∀ g, g < t_m x.1 → (F.2.2.1 85 (14 * k + (6 + g))).toInt = x.2.1 (6 + g)
def XNM (F : FW) (T : St) (nm : Nat → Int) : Prop := (∀ g, g < t_g T → (F.2.2.1 74 (0 + g)).toInt = nm (0 + g)) ∧ ∀ g, g < t_m T → (F.2.2.1 74 (6 + g)).toInt = nm (6 + g)
def XR (F : FW) (D : DD) : Prop := GW F ∧ XT F (dT D) ∧ XS F (t_m (dT D)) (dS D) ∧ HSX F (t_m (dT D)) (dn D) (dH D) ∧ XNM F (dT D) (dN D) ∧ RWF F ∧ ∀ k, k < 2 → IXC F k (dI D k)
def DOK (D : DD) : Prop := TBB (dT D) ∧ INV (dT D) (dS D) ∧ (∀ j, j < dn D → INV (dT D) (dH D j)) ∧ ∀ k x, dI D k = some x → TBB x.1 ∧ INV x.1 x.2.2
/-- nothing of the reference's changed -/
def KX (F G : FW) : Prop := ∀ D, XR F D → XR G D
/-- nothing of the class's changed -/
def KC (F G : FW) : Prop := ∀ D, CR F D → CR G D
theorem KX.rf {F : FW} : KX F F := fun _ h => h
theorem KC.rf {F : FW} : KC F F := fun _ h => h
section CRS
variable {F : FW} {D : DD}
theorem CR.G (h : CR F D) : GW F := h.1
theorem CR.c (h : CR F D) : 88 ≤ F.2.2.2.1 := h.2.1
theorem CR.l (h : CR F D) : CSL F (dT D) (dN D) := h.2.2.1
theorem CR.e (h : CR F D) : CSE F := h.2.2.2.1
theorem CR.s (h : CR F D) : SHR F 12 (t_m (dT D)) (dS D) := h.2.2.2.2.1
theorem CR.h (h : CR F D) : HST F (t_m (dT D)) (dn D) (dH D) := h.2.2.2.2.2.1
theorem CR.i (h : CR F D) : IMS F (dI D) := h.2.2.2.2.2.2
theorem XR.G (h : XR F D) : GW F := h.1
theorem XR.T (h : XR F D) : XT F (dT D) := h.2.1
theorem XR.s (h : XR F D) : XS F (t_m (dT D)) (dS D) := h.2.2.1
theorem XR.h (h : XR F D) : HSX F (t_m (dT D)) (dn D) (dH D) := h.2.2.2.1
theorem XR.n (h : XR F D) : XNM F (dT D) (dN D) := h.2.2.2.2.1
theorem XR.w (h : XR F D) : RWF F := h.2.2.2.2.2.1
theorem XR.i (h : XR F D) {k : Nat} (hk : k < 2) : IXC F k (dI D k) := h.2.2.2.2.2.2 k hk
end CRS
/-- cells that KF leaves -/
theorem KF.cell {P : Nat → Prop} {F G : FW} {m n a : Nat} {H : Nat → Sh} (h : KF P F G) (hH : HST F m n H) (h88 : 88 ≤ F.2.2.2.1) (ha : a < 88) (h10 : a ≠ 10) (h11 : a ≠ 11) : (∀ k, ¬ P a → G.1 a k = F.1 a k) ∧ (∀ k, G.2.1 a k = F.2.1 a k) ∧ ∀ k, ¬ P a → G.2.2.1 a k = F.2.2.1 a k := h.2.2.1 a (by omega) h10 h11 (hH.ns ha)
theorem TR.ce {F G : FW} {t : Nat} {T : St} (h : TR F t T) (x : ∀ a, t ≤ a → a ≤ t + 7 → (∀ k, G.1 a k = F.1 a k) ∧ ∀ k, G.2.1 a k = F.2.1 a k) : TR G t T :=
  ⟨fun j hj => ((x t (by omega) (by omega)).2 j).trans (h.o j hj), h.w, ((x t (by omega) (by omega)).1 _).trans h.l, ((x t (by omega) (by omega)).1 _).trans h.g, ((x t (by omega) (by omega)).1 _).trans h.m, ((x t (by omega) (by omega)).1 _).trans h.n,
    h.a.sm (x _ (by omega) (by omega)).1, h.r.sm (x _ (by omega) (by omega)).1, h.d.sm (x _ (by omega) (by omega)).1, h.dd.sm (x _ (by omega) (by omega)).1, h.f.sm (x _ (by omega) (by omega)).1⟩
theorem NMC.ce {F G : FW} {p : Nat} {T : St} {nm : Nat → Int} (h : NMC F p T nm) (x : ∀ a, p + 1 ≤ a → a ≤ p + 2 → ∀ k, G.2.2.1 a k = F.2.2.1 a k) : NMC G p T nm :=
  ⟨fun g hg => by rw [x (p + 1) (by omega) (by omega) g]; exact h.1 g hg, fun m hm => by rw [x (p + 2) (by omega) (by omega) m]; exact h.2 m hm⟩
theorem SE.ce {F G : FW} {p : Nat} {Q : Se} (h : SE F p Q) (x : ∀ a, p ≤ a → a ≤ p + 3 → (∀ k, G.1 a k = F.1 a k) ∧ ∀ k, G.2.1 a k = F.2.1 a k) : SE G p Q :=
  ⟨fun j hj => ((x p (by omega) (by omega)).2 j).trans (h.o j hj), ((x p (by omega) (by omega)).1 _).trans h.z, ((x p (by omega) (by omega)).1 _).trans h.n, ((x p (by omega) (by omega)).1 _).trans h.i, h.a.sm (x _ (by omega) (by omega)).1, h.f.sm (x _ (by omega) (by omega)).1, h.m.sm (x _ (by omega) (by omega)).1⟩
theorem IMV.ce {F G : FW} {k v : Nat} {I : Im} (h : IMV F k v I) (e41 : G.2.1 41 k = F.2.1 41 k) (c : F.2.2.2.1 ≤ G.2.2.2.1) (x : ∀ a, v ≤ a → a ≤ v + 20 → (∀ k, G.1 a k = F.1 a k) ∧ (∀ k, G.2.1 a k = F.2.1 a k) ∧ ∀ k, G.2.2.1 a k = F.2.2.1 a k) (s : ∀ a, v ≤ a → a ≤ v + 20 → ¬ SLT G a) : IMV G k v I := by
  obtain ⟨h1, h2, h3, h4, h5, h6, h7, h8, h9⟩ := h
  have r := (x v (by omega) (by omega)).2.1
  exact ⟨e41.trans h1, h2, by omega, ⟨(r 0).trans h4.1, (r 1).trans h4.2.1, (r 2).trans h4.2.2⟩, h5.ce fun a a1 a2 => ⟨(x a (by omega) (by omega)).1, (x a (by omega) (by omega)).2.1⟩, h6.ce fun a a1 a2 => (x a (by omega) (by omega)).2.2, h7.sm (fun a k a1 a2 => (x a (by omega) (by omega)).1 k) (x (v + 9) (by omega) (by omega)).2.1, h8.ce fun a a1 a2 => ⟨(x a (by omega) (by omega)).1, (x a (by omega) (by omega)).2.1⟩, s⟩
theorem IMS.kf {P : Nat → Prop} {F G : FW} {I : Nat → Option Imx} {m n : Nat} {H : Nat → Sh} (h : IMS F I) (k : KF P F G) (hH : HST F m n H) (h88 : 88 ≤ F.2.2.2.1) (hP : ∀ q, P q → q < 88) : IMS G I := by
  obtain ⟨vs, h1, h2⟩ := h
  have e41 := (k.cell hH h88 (a := 41) (by omega) (by omega) (by omega)).2.1
  refine ⟨vs, fun j hj => ?_, h2⟩
  have q := h1 j hj
  unfold IMC at q ⊢
  cases e : I j with
  | none =>
    rw [e] at q
    exact (e41 j).trans q
  | some x =>
    rw [e] at q
    obtain ⟨E, q⟩ := q
    have q3 := q.2.2.1
    have q2 := q.2.1
    have q9 := q.2.2.2.2.2.2.2.2
    refine ⟨E, q.ce (e41 j) k.1 (fun a a1 a2 => ?_) (fun a a1 a2 s => ?_)⟩
    · have c := k.2.2.1 a (by omega) (by omega) (by omega) (q9 a a1 a2)
      exact ⟨fun i => c.1 i (fun p => by have := hP a p; omega), c.2.1, fun i => c.2.2 i (fun p => by have := hP a p; omega)⟩
    · rcases k.2.2.2 a s with s | s
      · exact q9 a a1 a2 s
      · omega
theorem CR.kf {P : Nat → Prop} {F G : FW} {D : DD} {S' : Sh} {n' : Nat} {H' : Nat → Sh} (h : CR F D) (k : KF P F G) (hP : ∀ q, P q → q < 45 ∨ (61 ≤ q ∧ q < 88)) (hS : SHR G 12 (t_m (dT D)) S') (hH : HST G (t_m (dT D)) n' H') : CR G (dT D, dN D, S', n', H', dI D) := by
  have z := k.cell h.h h.c (a := 0) (by omega) (by omega) (by omega)
  refine ⟨k.gw h.h h.G h.c, Nat.le_trans h.c k.1, ?_, ?_, hS, hH, h.i.kf k h.h h.c (fun q hq => by have := hP q hq; omega)⟩
  · obtain ⟨t, p, j0, h1, h2, h3, h4⟩ := h.l
    have c : ∀ a, t ≤ a → a ≤ t + 7 → (∀ k, G.1 a k = F.1 a k) ∧ (∀ k, G.2.1 a k = F.2.1 a k) ∧ ∀ k, G.2.2.1 a k = F.2.2.1 a k := fun a a1 a2 => by
      have q := k.cell h.h h.c (a := a) (by omega) (by omega) (by omega)
      have np : ¬ P a := fun p => by have := hP a p; omega
      exact ⟨fun i => q.1 i np, q.2.1, fun i => q.2.2 i np⟩
    exact ⟨t, p, j0, (z.2.1 13).trans h1, (z.2.1 14).trans h2, h3.ce fun a a1 a2 => ⟨(c a a1 a2).1, (c a a1 a2).2.1⟩, h4.ce fun a a1 a2 => (c a (by omega) (by omega)).2.2⟩
  · obtain ⟨u, v, j0, h1, h2⟩ := h.e
    exact ⟨u, v, j0, (z.2.1 15).trans h1, (z.2.1 16).trans h2⟩
theorem CR.fx {P : Nat → Prop} {F G : FW} {D : DD} (h : CR F D) (x : FX P F G) (hP : ∀ q, P q → (q < 45 ∨ (61 ≤ q ∧ q < 88)) ∧ q ≠ 10 ∧ ¬ (12 ≤ q ∧ q ≤ 19)) : CR G D :=
  CR.kf h (KF.rf.fx x (fun _ _ p => p)) (fun q p => (hP q p).1) (h.s.fx x fun a a1 a2 p => (hP a p).2.2 ⟨a1, a2⟩) (h.h.fx x fun a p => by have := hP a p; omega)
theorem IXC.ce {F G : FW} {k : Nat} {o : Option Imx} (h : IXC F k o) (e : ∀ j, G.1 84 j = F.1 84 j) (e6 : G.1 86 k = F.1 86 k) (e5 : ∀ j, G.2.2.1 85 j = F.2.2.1 85 j) : IXC G k o := by
  unfold IXC at h ⊢
  cases o with
  | none => exact e6.trans h
  | some x =>
    obtain ⟨h1, h2, h3, h4, h5⟩ := h
    have q : ∀ j, j < 434 → (fcp G 84 71 (434 * k) 0 434).1 71 j = (fcp F 84 71 (434 * k) 0 434).1 71 j := fun j hj => by
      rw [fcp_in (by omega), fcp_in (by omega)]
      exact e _
    refine ⟨by rw [e6]; exact h1, h2.of fun j hj => q j ?_, h3.of h2.mb fun j a1 a2 => q j (by omega), fun g hg => by rw [e5]; exact h4 g hg, fun g hg => by rw [e5]; exact h5 g hg⟩
    omega
end
-- 63.b9w.rel.lean.txt
section
/-! ===== operations on both sides ===== -/
theorem CR.t {F : FW} {D : DD} (h : CR F D) : ∃ t : Nat, F.2.1 0 13 = .ref t ∧ TR F t (dT D) ∧ (t = 45 ∨ t = 53) ∧ NMC F t (dT D) (dN D) := by
  obtain ⟨t, p, j0, h1, -, h3, h4⟩ := h.l
  exact ⟨t, h1, h3, by omega, h4⟩
theorem XR.cells {F G : FW} {D : DD} (h : XR F D) (g : GW G) (e : ∀ a k, 69 ≤ a → a ≤ 86 → G.1 a k = F.1 a k) (l : ∀ a k, 69 ≤ a → a ≤ 86 → G.2.2.1 a k = F.2.2.1 a k) : XR G D :=
  ⟨g, h.T.of fun k _ => e 71 k (by omega) (by omega), h.s.of h.T.mb fun k _ _ => e 71 k (by omega) (by omega), HSX.same h.h h.T.mb (e 69 25 (by omega) (by omega)) (fun k => e 77 k (by omega) (by omega)), ⟨fun q hq => by rw [l 74 _ (by omega) (by omega)]; exact h.n.1 q hq, fun q hq => by rw [l 74 _ (by omega) (by omega)]; exact h.n.2 q hq⟩, fun j hj => by rw [l 75 _ (by omega) (by omega)]; exact h.w j hj, fun k hk => (h.i hk).ce (fun j => e 84 j (by omega) (by omega)) (e 86 k (by omega) (by omega)) (fun j => l 85 j (by omega) (by omega))⟩
theorem KF.kx {P : Nat → Prop} {F G : FW} {D : DD} (h : CR F D) (k : KF P F G) (hP : ∀ q, P q → q < 69) : KX F G := fun E x => x.cells (k.gw h.h h.G h.c) (fun a j a1 a2 => (k.cell h.h h.c (a := a) (by omega) (by omega) (by omega)).1 j (fun p => by have := hP a p; omega)) (fun a j a1 a2 => (k.cell h.h h.c (a := a) (by omega) (by omega) (by omega)).2.2 j (fun p => by have := hP a p; omega))
theorem FX.kx {P : Nat → Prop} {F G : FW} {D : DD} (h : CR F D) (x : FX P F G) (hP : ∀ q, P q → q < 69) : KX F G := KF.kx h (KF.rf.fx x (fun _ _ p => p)) hP
theorem FX.kc {P : Nat → Prop} {F G : FW} (x : FX P F G) (hP : ∀ q, P q → 69 ≤ q ∧ q < 88) : KC F G := fun D h => h.fx x fun q p => by
  have := hP q p
  omega
theorem XR.st {P : Nat → Prop} {F G : FW} {D : DD} {S' : Sh} {n' : Nat} {H' : Nat → Sh} (h : XR F D) (x : FX P F G) (hP : ∀ q, P q → q ≠ 74 ∧ q ≠ 75 ∧ q ≠ 84 ∧ q ≠ 85 ∧ q ≠ 86) (t : ∀ k, k < 120 → G.1 71 k = F.1 71 k) (s : XS G (t_m (dT D)) S') (hh : HSX G (t_m (dT D)) n' H') : XR G (dT D, dN D, S', n', H', dI D) :=
  ⟨h.G.fx x, h.T.of t, s, hh, ⟨fun q hq => by rw [x.2.1 74 _ (fun p => (hP 74 p).1 rfl)]; exact h.n.1 q hq, fun q hq => by rw [x.2.1 74 _ (fun p => (hP 74 p).1 rfl)]; exact h.n.2 q hq⟩, fun j hj => by rw [x.2.1 75 _ (fun p => (hP 75 p).2.1 rfl)]; exact h.w j hj, fun k hk => (h.i hk).ce (fun j => x.1 84 j (fun p => (hP 84 p).2.2.1 rfl)) (x.1 86 k (fun p => (hP 86 p).2.2.2.2 rfl)) (fun j => x.2.1 85 j (fun p => (hP 85 p).2.2.2.1 rfl))⟩
def dK (b : Bool) (S' : Sh) (D : DD) : DD := (dT D, dN D, S', if b = true then m_kn (dn D) else dn D, if b = true then m_kH (dn D) (dH D) (dS D) else dH D, dI D)
theorem DOK.k {D : DD} {b : Bool} {S' : Sh} (h : DOK D) (i : INV (dT D) S') : DOK (dK b S' D) := by
  refine ⟨h.1, i, fun j hj => ?_, h.2.2.2⟩
  cases b with
  | false => exact h.2.2.1 j hj
  | true =>
    show INV (dT D) (m_kH (dn D) (dH D) (dS D) j)
    have hj' : j < m_kn (dn D) := hj
    unfold m_kn at hj'
    unfold m_kH
    by_cases c : dn D < 8
    · rw [if_pos c] at hj' ⊢
      by_cases e : j < dn D
      · rw [if_pos e]
        exact h.2.2.1 j e
      · rw [if_neg e]
        exact h.2.1
    · rw [if_neg c] at hj' ⊢
      by_cases e : j < 7
      · rw [if_pos e]
        exact h.2.2.1 (j + 1) (by omega)
      · rw [if_neg e]
        exact h.2.1
section OPS
variable {Z : List Value → ab_H → Option ab_O} {as : List Value} {F : FW} {D : DD} {a : Int32}
theorem CO1 (h : CR F D) (p : Pm Z as F (fun r F' => r = some (.int a) ∧ F' = F)) : Pm Z as F (fun r F' => r = some (.int a) ∧ CR F' D ∧ KX F F') := p.imp fun r F' q => ⟨q.1, by rw [q.2]; exact h, by rw [q.2]; exact KX.rf⟩
theorem CO2 (h : CR F D) (p : Pm Z as F (fun r F' => r = some (.int a) ∧ CDR F F')) : Pm Z as F (fun r F' => r = some (.int a) ∧ CR F' D ∧ KX F F') := p.imp fun r F' q => ⟨q.1, h.fx q.2 (fun b (c : (7 ≤ b ∧ b ≤ 9) ∨ (20 ≤ b ∧ b ≤ 35) ∨ b = 40 ∨ b = 43) => by omega), FX.kx h q.2 (fun b (c : (7 ≤ b ∧ b ≤ 9) ∨ (20 ≤ b ∧ b ≤ 35) ∨ b = 40 ∨ b = 43) => by omega)⟩
theorem CO3 {P : Nat → Prop} {b : Bool} {S' : Sh} (h : CR F D) (hP : ∀ q, P q → q < 45) (p : Pm Z as F (fun r F' => r = some (.int a) ∧ HK b F' (t_m (dT D)) (dn D) (dH D) (dS D) ∧ SHR F' 12 (t_m (dT D)) S' ∧ KF P F F')) : Pm Z as F (fun r F' => r = some (.int a) ∧ CR F' (dK b S' D) ∧ KX F F') := p.imp fun r F' q => ⟨q.1, by
    have k := q.2.1
    have z := CR.kf h q.2.2.2 (fun x p => Or.inl (hP x p)) q.2.2.1 (n' := if b = true then m_kn (dn D) else dn D) (H' := if b = true then m_kH (dn D) (dH D) (dS D) else dH D) (by
      cases b with
      | false => exact k
      | true => exact k)
    exact z, KF.kx h q.2.2.2 (fun x p => by have := hP x p; omega)⟩
theorem QO1 (h : XR F D) (p : Pm Z as F (fun r F' => r = some (.int a) ∧ RDR F F')) : Pm Z as F (fun r F' => r = some (.int a) ∧ XR F' D ∧ KC F F') := p.imp fun r F' q => ⟨q.1, by
    obtain ⟨-, x, e1, e9⟩ := q
    exact h.st x (fun b (c : b = 69 ∨ b = 71 ∨ b = 78 ∨ b = 79) => by omega) (fun k _ => e1 k) (h.s.of h.T.mb fun k _ _ => e1 k) (HSX.same h.h h.T.mb (e9 25 (by decide) (by decide) (by decide)) fun k => x.1 77 k (by decide)), q.2.1.kc (fun b (c : b = 69 ∨ b = 71 ∨ b = 78 ∨ b = 79) => by omega)⟩
theorem QO3 (h : XR F D) (p : Pm Z as F (fun r F' => r = some (.int a) ∧ F' = fp F 69 0 0)) : Pm Z as F (fun r F' => r = some (.int a) ∧ XR F' D ∧ KC F F') := p.imp fun r F' q => by
  obtain ⟨e, rfl⟩ := q
  have x : FX (fun b => b = 69) F (fp F 69 0 0) := FX.rf.fp rfl
  exact ⟨e, h.st x (fun b (c : b = 69) => by omega) (fun k _ => fp_ne (Or.inl (by decide))) (h.s.of h.T.mb fun k _ _ => fp_ne (Or.inl (by decide))) (HSX.same h.h h.T.mb (fp_ne (Or.inr (by decide))) fun k => x.1 77 k (by decide)), x.kc (fun b (c : b = 69) => by omega)⟩
theorem QO2 {b : Bool} {S' : Sh} (h : XR F D) (p : Pm Z as F (fun r F' => r = some (.int a) ∧ RKX F F' ∧ HKX b F' (t_m (dT D)) (dn D) (dH D) (dS D) ∧ XS F' (t_m (dT D)) S')) : Pm Z as F (fun r F' => r = some (.int a) ∧ XR F' (dK b S' D) ∧ KC F F') := p.imp fun r F' q => ⟨q.1, by
    have k := q.2.2.1
    have z := h.st q.2.1.1 (fun b (c : b = 69 ∨ b = 71 ∨ b = 77 ∨ b = 78) => by omega) (fun k hk => q.2.1.2.2 k (Or.inl hk)) q.2.2.2 (n' := if b = true then m_kn (dn D) else dn D) (H' := if b = true then m_kH (dn D) (dH D) (dS D) else dH D) (by
      cases b with
      | false => exact k
      | true => exact k)
    exact z, q.2.1.1.kc (fun b (c : b = 69 ∨ b = 71 ∨ b = 77 ∨ b = 78) => by omega)⟩
end OPS
end
-- 63.b9x.ops.lean.txt
section
theorem d_good {F : FW} {D : DD} (h : CR F D) (k : DOK D) (x y w : Int32) : Pm Z_X10_good [.ref 0, .int x, .int y, .int w] F (fun r F' => r = some (.int (a_good (dT D) (dS D) x y w)) ∧ CR F' D ∧ KX F F') := by
  obtain ⟨t, ht, hT, j0, -⟩ := h.t
  exact CO1 h (o_good h.G ht hT h.s j0 x y w)
theorem e_good {F : FW} {D : DD} (h : XR F D) (k : DOK D) (x y w : Int32) : Pm Z_X11_good [.ref 69, .int x, .int y, .int w] F (fun r F' => r = some (.int (a_good (dT D) (dS D) x y w)) ∧ XR F' D ∧ KC F F') :=
  QO1 h (q_good h.T h.s h.G k.1 k.2.1.sb k.2.1.hb x y w)
theorem d_crossed {F : FW} {D : DD} (h : CR F D) (k : DOK D) (x y : Int32) : Pm Z_X10_crossed [.ref 0, .int x, .int y] F (fun r F' => r = some (.int (a_crossed (dT D) (dS D) x y)) ∧ CR F' D ∧ KX F F') := by
  obtain ⟨t, ht, hT, j0, -⟩ := h.t
  exact CO1 h (o_crossed h.G ht hT h.s j0 x y)
theorem e_crossed {F : FW} {D : DD} (h : XR F D) (k : DOK D) (x y : Int32) : Pm Z_X11_crossed [.ref 69, .int x, .int y] F (fun r F' => r = some (.int (a_crossed (dT D) (dS D) x y)) ∧ XR F' D ∧ KC F F') :=
  QO1 h (q_crossed h.T h.s h.G x y)
theorem d_apart {F : FW} {D : DD} (h : CR F D) (k : DOK D) (x y : Int32) : Pm Z_X10_apart [.ref 0, .int x, .int y] F (fun r F' => r = some (.int (a_apart (dT D) (dS D) x y)) ∧ CR F' D ∧ KX F F') := by
  obtain ⟨t, ht, hT, j0, -⟩ := h.t
  exact CO1 h (o_apart h.G ht hT h.s j0 x y)
theorem e_apart {F : FW} {D : DD} (h : XR F D) (k : DOK D) (x y : Int32) : Pm Z_X11_apart [.ref 69, .int x, .int y] F (fun r F' => r = some (.int (a_apart (dT D) (dS D) x y)) ∧ XR F' D ∧ KC F F') :=
  QO1 h (q_apart h.T h.s h.G x y)
theorem d_now {F : FW} {D : DD} (h : CR F D) (k : DOK D) (w : Int32) : Pm Z_X10_now [.ref 0, .int w] F (fun r F' => r = some (.int (a_now (dT D) (dS D) w)) ∧ CR F' D ∧ KX F F') := by
  obtain ⟨t, ht, hT, j0, -⟩ := h.t
  exact CO1 h (o_now h.G ht hT h.s j0 w)
theorem e_now {F : FW} {D : DD} (h : XR F D) (k : DOK D) (w : Int32) : Pm Z_X11_now [.ref 69, .int w] F (fun r F' => r = some (.int (a_now (dT D) (dS D) w)) ∧ XR F' D ∧ KC F F') :=
  QO1 h (q_now h.T h.s h.G w)
theorem d_hoard {F : FW} {D : DD} (h : CR F D) (k : DOK D) (x y z : Int32) : Pm Z_X10_hoard [.ref 0, .int x, .int y, .int z] F (fun r F' => r = some (.int (a_act 0 (dT D) (dS D) x y z)) ∧ CR F' (dK (decide (a_act 0 (dT D) (dS D) x y z = 0)) (m_act 0 (dT D) (dS D) x y z) D) ∧ KX F F') := by
  obtain ⟨t, ht, hT, j0, -⟩ := h.t
  exact CO3 h (fun q (c : 12 ≤ q ∧ q ≤ 19) => by omega) (o_hoard h.G ht hT h.s j0 h.h h.c x y z)
theorem e_hoard {F : FW} {D : DD} (h : XR F D) (k : DOK D) (x y z : Int32) : Pm Z_X11_hoard [.ref 69, .int x, .int y, .int z] F (fun r F' => r = some (.int (a_act 0 (dT D) (dS D) x y z)) ∧ XR F' (dK (decide (a_act 0 (dT D) (dS D) x y z = 0)) (m_act 0 (dT D) (dS D) x y z) D) ∧ KC F F') :=
  QO2 h (q_hoard h.T h.s h.G h.h x y z)
theorem d_bare {F : FW} {D : DD} (h : CR F D) (k : DOK D) (x y z : Int32) : Pm Z_X10_bare [.ref 0, .int x, .int y, .int z] F (fun r F' => r = some (.int (a_act 1 (dT D) (dS D) x y z)) ∧ CR F' (dK (decide (a_act 1 (dT D) (dS D) x y z = 0)) (m_act 1 (dT D) (dS D) x y z) D) ∧ KX F F') := by
  obtain ⟨t, ht, hT, j0, -⟩ := h.t
  exact CO3 h (fun q (c : 12 ≤ q ∧ q ≤ 19) => by omega) (o_bare h.G ht hT h.s j0 h.h h.c x y z)
theorem e_bare {F : FW} {D : DD} (h : XR F D) (k : DOK D) (x y z : Int32) : Pm Z_X11_bare [.ref 69, .int x, .int y, .int z] F (fun r F' => r = some (.int (a_act 1 (dT D) (dS D) x y z)) ∧ XR F' (dK (decide (a_act 1 (dT D) (dS D) x y z = 0)) (m_act 1 (dT D) (dS D) x y z) D) ∧ KC F F') :=
  QO2 h (q_bare h.T h.s h.G h.h x y z)
theorem d_waste {F : FW} {D : DD} (h : CR F D) (k : DOK D) (x y z : Int32) : Pm Z_X10_waste [.ref 0, .int x, .int y, .int z] F (fun r F' => r = some (.int (a_act 2 (dT D) (dS D) x y z)) ∧ CR F' (dK (decide (a_act 2 (dT D) (dS D) x y z = 0)) (m_act 2 (dT D) (dS D) x y z) D) ∧ KX F F') := by
  obtain ⟨t, ht, hT, j0, -⟩ := h.t
  exact CO3 h (fun q (c : 12 ≤ q ∧ q ≤ 19) => by omega) (o_waste h.G ht hT h.s j0 h.h h.c x y z)
theorem e_waste {F : FW} {D : DD} (h : XR F D) (k : DOK D) (x y z : Int32) : Pm Z_X11_waste [.ref 69, .int x, .int y, .int z] F (fun r F' => r = some (.int (a_act 2 (dT D) (dS D) x y z)) ∧ XR F' (dK (decide (a_act 2 (dT D) (dS D) x y z = 0)) (m_act 2 (dT D) (dS D) x y z) D) ∧ KC F F') :=
  QO2 h (q_waste h.T h.s h.G h.h x y z)
theorem d_die {F : FW} {D : DD} (h : CR F D) (k : DOK D) (x : Int32) : Pm Z_X10_die [.ref 0, .int x] F (fun r F' => r = some (.int (a_die (dT D) (dS D) x)) ∧ CR F' (dK (decide (a_die (dT D) (dS D) x = 0)) (m_die (dT D) (dS D) x) D) ∧ KX F F') := by
  obtain ⟨t, ht, hT, j0, -⟩ := h.t
  exact CO3 h (fun q (c : 12 ≤ q ∧ q ≤ 19) => by omega) (o_die h.G ht hT h.s j0 h.h h.c x)
theorem e_die {F : FW} {D : DD} (h : XR F D) (k : DOK D) (x : Int32) : Pm Z_X11_die [.ref 69, .int x] F (fun r F' => r = some (.int (a_die (dT D) (dS D) x)) ∧ XR F' (dK (decide (a_die (dT D) (dS D) x = 0)) (m_die (dT D) (dS D) x) D) ∧ KC F F') :=
  QO2 h (q_die h.T h.s h.G h.h x)
theorem d_days {F : FW} {D : DD} (h : CR F D) (k : DOK D) (x : Int32) : Pm Z_X10_days [.ref 0, .int x] F (fun r F' => r = some (.int (a_days (dT D) (dS D) x)) ∧ CR F' (dK ((ndr 1 60 x).isSome && decide (h_d (dS D) < 400)) (m_dys (dT D) (dS D) x) D) ∧ KX F F') := by
  obtain ⟨t, ht, hT, j0, -⟩ := h.t
  exact CO3 h (fun q (c : (12 ≤ q ∧ q ≤ 19) ∨ (7 ≤ q ∧ q ≤ 9)) => by omega) (o_days h.G ht hT h.s j0 h.h h.c x)
theorem e_days {F : FW} {D : DD} (h : XR F D) (k : DOK D) (x : Int32) : Pm Z_X11_days [.ref 69, .int x] F (fun r F' => r = some (.int (a_days (dT D) (dS D) x)) ∧ XR F' (dK ((ndr 1 60 x).isSome && decide (h_d (dS D) < 400)) (m_dys (dT D) (dS D) x) D) ∧ KC F F') :=
  QO2 h (q_days h.T h.s h.G h.h k.1 k.2.1 x)
theorem d_lacks {F : FW} {D : DD} (h : CR F D) (k : DOK D) (y : Int32) : Pm Z_X10_lacks [.ref 0, .int y] F (fun r F' => r = some (.int (a_lacks (dT D) (dS D) y)) ∧ CR F' D ∧ KX F F') := by
  obtain ⟨t, ht, hT, j0, -⟩ := h.t
  exact CO1 h (o_lacks h.G ht hT h.s j0 y)
theorem e_lacks {F : FW} {D : DD} (h : XR F D) (k : DOK D) (y : Int32) : Pm Z_X11_lacks [.ref 69, .int y] F (fun r F' => r = some (.int (a_lacks (dT D) (dS D) y)) ∧ XR F' D ∧ KC F F') :=
  QO1 h (q_lacks h.T h.s h.G y)
theorem d_falses {F : FW} {D : DD} (h : CR F D) (k : DOK D) (y : Int32) : Pm Z_X10_falses [.ref 0, .int y] F (fun r F' => r = some (.int (a_falses (dT D) (dS D) y)) ∧ CR F' D ∧ KX F F') := by
  obtain ⟨t, ht, hT, j0, -⟩ := h.t
  exact CO1 h (o_falses h.G ht hT h.s j0 y)
theorem e_falses {F : FW} {D : DD} (h : XR F D) (k : DOK D) (y : Int32) : Pm Z_X11_falses [.ref 69, .int y] F (fun r F' => r = some (.int (a_falses (dT D) (dS D) y)) ∧ XR F' D ∧ KC F F') :=
  QO1 h (q_falses h.T h.s h.G k.1 k.2.1.sb k.2.1.hb y)
theorem d_going {F : FW} {D : DD} (h : CR F D) (k : DOK D) : Pm Z_X10_going [.ref 0] F (fun r F' => r = some (.int (a_going (dT D) (dS D))) ∧ CR F' D ∧ KX F F') := by
  obtain ⟨t, ht, hT, j0, -⟩ := h.t
  exact CO2 h (o_going h.G ht hT h.s j0)
theorem e_going {F : FW} {D : DD} (h : XR F D) (k : DOK D) : Pm Z_X11_going [.ref 69] F (fun r F' => r = some (.int (a_going (dT D) (dS D))) ∧ XR F' D ∧ KC F F') :=
  QO1 h (q_going h.T h.s h.G)
theorem d_goes {F : FW} {D : DD} (h : CR F D) (k : DOK D) (x : Int32) : Pm Z_X10_goes [.ref 0, .int x] F (fun r F' => r = some (.int (a_goes (dT D) (dS D) x)) ∧ CR F' D ∧ KX F F') := by
  obtain ⟨t, ht, hT, j0, -⟩ := h.t
  exact CO2 h (o_goes h.G ht hT h.s j0 x)
theorem e_goes {F : FW} {D : DD} (h : XR F D) (k : DOK D) (x : Int32) : Pm Z_X11_goes [.ref 69, .int x] F (fun r F' => r = some (.int (a_goes (dT D) (dS D) x)) ∧ XR F' D ∧ KC F F') :=
  QO1 h (q_goes h.T h.s h.G k.1 k.2.1 x)
theorem d_crosses {F : FW} {D : DD} (h : CR F D) (k : DOK D) (x : Int32) : Pm Z_X10_crosses [.ref 0, .int x] F (fun r F' => r = some (.int (a_crosses (dT D) (dS D) x)) ∧ CR F' D ∧ KX F F') := by
  obtain ⟨t, ht, hT, j0, -⟩ := h.t
  exact CO2 h (o_crosses h.G ht hT h.s j0 x)
theorem e_crosses {F : FW} {D : DD} (h : XR F D) (k : DOK D) (x : Int32) : Pm Z_X11_crosses [.ref 69, .int x] F (fun r F' => r = some (.int (a_crosses (dT D) (dS D) x)) ∧ XR F' D ∧ KC F F') :=
  QO1 h (q_crosses h.T h.s h.G k.1 k.2.1 x)
theorem d_comes {F : FW} {D : DD} (h : CR F D) (k : DOK D) (x y : Int32) : Pm Z_X10_comes [.ref 0, .int x, .int y] F (fun r F' => r = some (.int (a_comes (dT D) (dS D) x y)) ∧ CR F' D ∧ KX F F') := by
  obtain ⟨t, ht, hT, j0, -⟩ := h.t
  exact CO2 h (o_comes h.G ht hT h.s j0 x y)
theorem e_comes {F : FW} {D : DD} (h : XR F D) (k : DOK D) (x y : Int32) : Pm Z_X11_comes [.ref 69, .int x, .int y] F (fun r F' => r = some (.int (a_comes (dT D) (dS D) x y)) ∧ XR F' D ∧ KC F F') :=
  QO1 h (q_comes h.T h.s h.G k.1 k.2.1 x y)
theorem d_without {F : FW} {D : DD} (h : CR F D) (k : DOK D) (x y z w : Int32) : Pm Z_X10_without [.ref 0, .int x, .int y, .int z, .int w] F (fun r F' => r = some (.int (c_without (dT D) (dS D) x y z w)) ∧ CR F' D ∧ KX F F') := by
  obtain ⟨t, ht, hT, j0, -⟩ := h.t
  exact CO2 h (o_without h.G ht hT h.s j0 k.2.1 x y z w)
theorem e_without {F : FW} {D : DD} (h : XR F D) (k : DOK D) (x y z w : Int32) : Pm Z_X11_without [.ref 69, .int x, .int y, .int z, .int w] F (fun r F' => r = some (.int (a_without (dT D) (dS D) x y z w)) ∧ XR F' D ∧ KC F F') :=
  QO1 h (q_without h.T h.s h.G k.1 k.2.1 x y z w)
theorem d_meet {F : FW} {D : DD} (h : CR F D) (k : DOK D) (x y : Int32) : Pm Z_X10_meet [.ref 0, .int x, .int y] F (fun r F' => r = some (.int (a_meet (dT D) (dS D) x y)) ∧ CR F' D ∧ KX F F') := by
  obtain ⟨t, ht, hT, j0, -⟩ := h.t
  exact CO2 h (o_meet h.G ht hT h.s j0 x y)
theorem e_meet {F : FW} {D : DD} (h : XR F D) (k : DOK D) (x y : Int32) : Pm Z_X11_meet [.ref 69, .int x, .int y] F (fun r F' => r = some (.int (a_meet (dT D) (dS D) x y)) ∧ XR F' D ∧ KC F F') :=
  QO1 h (q_meet h.T h.s h.G k.1 k.2.1 x y)
theorem d_loads {F : FW} {D : DD} (h : CR F D) (k : DOK D) (x : Int32) : Pm Z_X10_loads [.ref 0, .int x] F (fun r F' => r = some (.int (a_loads (dT D) (dS D) x)) ∧ CR F' D ∧ KX F F') := by
  obtain ⟨t, ht, hT, j0, -⟩ := h.t
  exact CO2 h (o_loads h.G ht hT h.s j0 x)
theorem e_loads {F : FW} {D : DD} (h : XR F D) (k : DOK D) (x : Int32) : Pm Z_X11_loads [.ref 69, .int x] F (fun r F' => r = some (.int (a_loads (dT D) (dS D) x)) ∧ XR F' D ∧ KC F F') :=
  QO1 h (q_loads h.T h.s h.G k.1 k.2.1 x)
theorem d_hunger {F : FW} {D : DD} (h : CR F D) (k : DOK D) (x y z : Int32) : Pm Z_X10_hunger [.ref 0, .int x, .int y, .int z] F (fun r F' => r = some (.int (a_hunger (dT D) (dS D) x y z)) ∧ CR F' D ∧ KX F F') := by
  obtain ⟨t, ht, hT, j0, -⟩ := h.t
  exact CO2 h (o_hunger h.G ht hT h.s j0 x y z)
theorem e_hunger {F : FW} {D : DD} (h : XR F D) (k : DOK D) (x y z : Int32) : Pm Z_X11_hunger [.ref 69, .int x, .int y, .int z] F (fun r F' => r = some (.int (a_hunger (dT D) (dS D) x y z)) ∧ XR F' D ∧ KC F F') :=
  QO1 h (q_hunger h.T h.s h.G k.1 k.2.1 x y z)
theorem d_dearest {F : FW} {D : DD} (h : CR F D) (k : DOK D) : Pm Z_X10_dearest [.ref 0] F (fun r F' => r = some (.int (a_dearest (dT D) (dS D))) ∧ CR F' D ∧ KX F F') := by
  obtain ⟨t, ht, hT, j0, -⟩ := h.t
  exact CO1 h (o_dearest h.G ht hT h.s j0)
theorem e_dearest {F : FW} {D : DD} (h : XR F D) (k : DOK D) : Pm Z_X11_dearest [.ref 69] F (fun r F' => r = some (.int (a_dearest (dT D) (dS D))) ∧ XR F' D ∧ KC F F') :=
  QO1 h (q_dearest h.T h.s h.G)
theorem d_rats {F : FW} {D : DD} (h : CR F D) (k : DOK D) : Pm Z_X10_rats [.ref 0] F (fun r F' => r = some (.int (a_rats (dT D) (dS D))) ∧ CR F' D ∧ KX F F') := by
  obtain ⟨t, ht, hT, j0, -⟩ := h.t
  exact CO1 h (o_rats h.G ht hT h.s j0)
theorem e_rats {F : FW} {D : DD} (h : XR F D) (k : DOK D) : Pm Z_X11_rats [.ref 69] F (fun r F' => r = some (.int (a_rats (dT D) (dS D))) ∧ XR F' D ∧ KC F F') :=
  QO1 h (q_rats h.T h.s h.G k.2.1.ab)
theorem d_hoarded {F : FW} {D : DD} (h : CR F D) (k : DOK D) (y : Int32) : Pm Z_X10_hoarded [.ref 0, .int y] F (fun r F' => r = some (.int (a_hoarded (dT D) (dS D) y)) ∧ CR F' D ∧ KX F F') := by
  obtain ⟨t, ht, hT, j0, -⟩ := h.t
  exact CO1 h (o_hoarded h.G ht hT h.s j0 y)
theorem e_hoarded {F : FW} {D : DD} (h : XR F D) (k : DOK D) (y : Int32) : Pm Z_X11_hoarded [.ref 69, .int y] F (fun r F' => r = some (.int (a_hoarded (dT D) (dS D) y)) ∧ XR F' D ∧ KC F F') :=
  QO1 h (q_hoarded h.T h.s h.G y)
theorem d_drawn {F : FW} {D : DD} (h : CR F D) (k : DOK D) (x z : Int32) : Pm Z_X10_drawn [.ref 0, .int x, .int z] F (fun r F' => r = some (.int (a_drawn (dT D) (dS D) x z)) ∧ CR F' (dK ((ndr 1 60 x).isSome && decide (0 < t_g (dT D)) && decide (h_d (dS D) < 400)) (m_dwn (dT D) (dS D) x z) D) ∧ KX F F') := by
  obtain ⟨t, ht, hT, j0, -⟩ := h.t
  exact CO3 h (fun q (c : (12 ≤ q ∧ q ≤ 19) ∨ (7 ≤ q ∧ q ≤ 9) ∨ q = 40) => by omega) (o_drawn h.G ht hT h.s j0 h.h h.c x z)
theorem e_drawn {F : FW} {D : DD} (h : XR F D) (k : DOK D) (x z : Int32) : Pm Z_X11_drawn [.ref 69, .int x, .int z] F (fun r F' => r = some (.int (a_drawn (dT D) (dS D) x z)) ∧ XR F' (dK ((ndr 1 60 x).isSome && decide (0 < t_g (dT D)) && decide (h_d (dS D) < 400)) (m_dwn (dT D) (dS D) x z) D) ∧ KC F F') :=
  QO2 h (q_drawn h.T h.s h.G h.h k.1 k.2.1 x z)
theorem d_odds {F : FW} {D : DD} (h : CR F D) (k : DOK D) (x y z : Int32) : Pm Z_X10_odds [.ref 0, .int x, .int y, .int z] F (fun r F' => r = some (.int (a_odds (dT D) (dS D) x y z)) ∧ CR F' D ∧ KX F F') := by
  obtain ⟨t, ht, hT, j0, -⟩ := h.t
  exact CO2 h (o_odds h.G ht hT h.s j0 x y z)
theorem e_odds {F : FW} {D : DD} (h : XR F D) (k : DOK D) (x y z : Int32) : Pm Z_X11_odds [.ref 69, .int x, .int y, .int z] F (fun r F' => r = some (.int (a_odds (dT D) (dS D) x y z)) ∧ XR F' D ∧ KC F F') :=
  QO1 h (q_odds h.T h.s h.G k.1 k.2.1 x y z)
end
-- 63.b9y.ops.lean.txt
section
section OPQ
variable {Z : List Value → ab_H → Option ab_O} {as : List Value} {F : FW} {D : DD} {Q : Option Value → Prop}
theorem CO2q (h : CR F D) (p : Pm Z as F (fun r F' => Q r ∧ CDR F F')) : Pm Z as F (fun r F' => Q r ∧ CR F' D ∧ KX F F') := p.imp fun r F' q => ⟨q.1, h.fx q.2 (fun b (c : (7 ≤ b ∧ b ≤ 9) ∨ (20 ≤ b ∧ b ≤ 35) ∨ b = 40 ∨ b = 43) => by omega), FX.kx h q.2 (fun b (c : (7 ≤ b ∧ b ≤ 9) ∨ (20 ≤ b ∧ b ≤ 35) ∨ b = 40 ∨ b = 43) => by omega)⟩
theorem QO1q (h : XR F D) (p : Pm Z as F (fun r F' => Q r ∧ RDR F F')) : Pm Z as F (fun r F' => Q r ∧ XR F' D ∧ KC F F') := p.imp fun r F' q => ⟨q.1, by
    obtain ⟨-, x, e1, e9⟩ := q
    exact h.st x (fun b (c : b = 69 ∨ b = 71 ∨ b = 78 ∨ b = 79) => by omega) (fun k _ => e1 k) (h.s.of h.T.mb fun k _ _ => e1 k) (HSX.same h.h h.T.mb (e9 25 (by decide) (by decide) (by decide)) fun k => x.1 77 k (by decide)), q.2.1.kc (fun b (c : b = 69 ∨ b = 71 ∨ b = 78 ∨ b = 79) => by omega)⟩
theorem XR.f69 {G : FW} (h : XR F D) (x : FX (fun b => b = 69) F G) (e : G.1 69 25 = F.1 69 25) : XR G D := h.st x (fun b (c : b = 69) => by omega) (fun k _ => x.1 71 k (by decide)) (h.s.of h.T.mb fun k _ _ => x.1 71 k (by decide)) (HSX.same h.h h.T.mb e fun k => x.1 77 k (by decide))
theorem KC.f69 {G : FW} (x : FX (fun b => b = 69) F G) : KC F G := x.kc (fun b (c : b = 69) => by omega)
theorem QO3q (h : XR F D) (p : Pm Z as F (fun r F' => Q r ∧ F' = fp F 69 0 0)) : Pm Z as F (fun r F' => Q r ∧ XR F' D ∧ KC F F') := p.imp fun r F' q => by
  obtain ⟨e, rfl⟩ := q
  exact ⟨e, h.f69 (FX.rf.fp rfl) (fp_ne (Or.inr (by decide))), KC.f69 (FX.rf.fp rfl)⟩
end OPQ
def dU (D : DD) : DD := (dT D, dN D, if dn D = 0 then dS D else dH D (dn D - 1), dn D - 1, dH D, dI D)
theorem DOK.u {D : DD} (h : DOK D) : DOK (dU D) := by
  refine ⟨h.1, ?_, fun j (hj : j < dn D - 1) => h.2.2.1 j (by omega), h.2.2.2⟩
  show INV (dT D) (if dn D = 0 then dS D else dH D (dn D - 1))
  by_cases c : dn D = 0
  · rw [if_pos c]
    exact h.2.1
  · rw [if_neg c]
    exact h.2.2.1 _ (by omega)
theorem d_undo {F : FW} {D : DD} (h : CR F D) : Pm Z_X10_undo [.ref 0] F (fun r F' => r = some (.int (if dn D = 0 then -1 else Int32.ofNat (dn D - 1))) ∧ CR F' (dU D) ∧ KX F F') := by
  obtain ⟨t, ht, hT, j0, -⟩ := h.t
  refine (o_undo h.G ht hT h.s j0 h.h h.c).imp fun r F' q => ⟨q.1, ?_, FX.kx h q.2.2.2 (fun b (c : (12 ≤ b ∧ b ≤ 19) ∨ b = 10) => by omega)⟩
  exact CR.kf h (KF.rf.fx q.2.2.2 (fun _ _ p => p)) (fun b (c : (12 ≤ b ∧ b ≤ 19) ∨ b = 10) => by omega) q.2.2.1 q.2.1
theorem e_undo {F : FW} {D : DD} (h : XR F D) : Pm Z_X11_undo [.ref 69] F (fun r F' => r = some (.int (if dn D = 0 then -1 else Int32.ofNat (dn D - 1))) ∧ XR F' (dU D) ∧ KC F F') :=
  (q_undo h.T h.s h.G h.h).imp fun r F' q => ⟨q.1, h.st q.2.1.1 (fun b (c : b = 69 ∨ b = 71 ∨ b = 77 ∨ b = 78) => by omega) (fun k hk => q.2.1.2.2 k (Or.inl hk)) q.2.2.2 q.2.2.1, q.2.1.1.kc (fun b (c : b = 69 ∨ b = 71 ∨ b = 77 ∨ b = 78) => by omega)⟩
theorem d_settles {F : FW} {D : DD} (h : CR F D) : Pm Z_X10_settles [.ref 0] F (fun r F' => (∃ z, r = some (.int z)) ∧ CR F' D ∧ KX F F') := by
  obtain ⟨t, ht, hT, j0, -⟩ := h.t
  exact CO2q h (o_settles h.G ht hT h.s j0)
theorem e_settles {F : FW} {D : DD} (h : XR F D) (k : DOK D) : Pm Z_X11_settles [.ref 69] F (fun r F' => (∃ z, r = some (.int z)) ∧ XR F' D ∧ KC F F') := QO1q h (q_settles h.T h.s h.G k.1 k.2.1)
theorem d_prices {F : FW} {D : DD} (h : CR F D) : Pm Z_X10_prices [.ref 0] F (fun r F' => r = some (.int (Int32.ofNat (m_rounds (dT D) (dS D)))) ∧ CR F' D ∧ KX F F') := by
  obtain ⟨t, ht, hT, j0, -⟩ := h.t
  exact (o_prices h.G ht hT h.s j0).imp fun r F' q => ⟨q.1, h.fx q.2.1 (fun b (c : b = 0 ∨ (7 ≤ b ∧ b ≤ 9) ∨ (20 ≤ b ∧ b ≤ 27) ∨ b = 42) => by omega), FX.kx h q.2.1 (fun b (c : b = 0 ∨ (7 ≤ b ∧ b ≤ 9) ∨ (20 ≤ b ∧ b ≤ 27) ∨ b = 42) => by omega)⟩
theorem e_prices {F : FW} {D : DD} (h : XR F D) (k : DOK D) : Pm Z_X11_prices [.ref 69] F (fun r F' => r = some (.int (Int32.ofNat (m_rounds (dT D) (dS D)))) ∧ XR F' D ∧ KC F F') :=
  (q_prices h.T h.s h.G k.1 k.2.1).imp fun r F' q => ⟨q.1, by
    obtain ⟨x, e1, e9⟩ := q.2.1
    exact h.st x (fun b (c : b = 69 ∨ b = 71 ∨ b = 78 ∨ b = 80) => by omega) (fun k _ => e1 k) (h.s.of h.T.mb fun k _ _ => e1 k) (HSX.same h.h h.T.mb (e9 25 (by decide) (by decide) (by decide)) fun k => x.1 77 k (by decide)), q.2.1.1.kc (fun b (c : b = 69 ∨ b = 71 ∨ b = 78 ∨ b = 80) => by omega)⟩
theorem d_count {F : FW} {D : DD} {e : Int32} (h : CR F D) (he : F.1 1 1 = e) (w : Int32) : Pm Z_X10_count [.ref 0, .int w] F (fun r F' => r = some (.int (a_count (dT D) e w)) ∧ CR F' D ∧ KX F F') := by
  obtain ⟨t, ht, hT, j0, -⟩ := h.t
  exact CO1 h (o_count h.G ht hT he w)
theorem q_count {F : FW} {T : St} (hT : XT F T) (hG : GW F) {e : Int32} (he : F.1 69 2 = e) (w : Int32) : Pm Z_X11_count [.ref 69, .int w] F (fun r F' => r = some (.int (a_count T e w)) ∧ F' = fp F 69 0 0) := by
  cases hw : nd 5 w with
  | none => exact q_countn hT hG he hw
  | some k =>
    obtain ⟨hk, rfl⟩ := nd_some hw
    match k, hk with
    | 0, _ => exact q_count0 hT hG he
    | 1, _ => exact q_count1 hT hG he
    | 2, _ => exact q_count2 hT hG he
    | 3, _ => exact q_count3 hT hG he
    | 4, _ => exact q_count4 hT hG he
    | k + 5, h => exact absurd h (by omega)
theorem e_count {F : FW} {D : DD} {e : Int32} (h : XR F D) (he : F.1 69 2 = e) (w : Int32) : Pm Z_X11_count [.ref 69, .int w] F (fun r F' => r = some (.int (a_count (dT D) e w)) ∧ XR F' D ∧ KC F F') := QO3 h (q_count h.T h.G he w)
theorem d_fault {F : FW} {D : DD} (h : CR F D) : Pm Z_X10_fault [.ref 0] F (fun r F' => r = some (.int (F.1 0 18)) ∧ CR F' D ∧ KX F F') := by
  obtain ⟨t, ht, hT, j0, -⟩ := h.t
  exact CO1 h (o_fault h.G ht hT h.s j0)
theorem e_fault {F : FW} {D : DD} (h : XR F D) : Pm Z_X11_fault [.ref 69] F (fun r F' => r = some (.int (F.1 69 15)) ∧ XR F' D ∧ KC F F') := QO3 h q_fault
theorem d_which {F : FW} {D : DD} {n : Nat} (h : CR F D) (hn : F.1 1 1 = Int32.ofNat n) (hn9 : n ≤ 940) : Pm Z_X10_which [.ref 0] F (fun r F' => r = some (.int (a_which (dT D) n (fun q => F.1 2 q &&& 255))) ∧ CR F' D ∧ KX F F') := by
  obtain ⟨t, ht, hT, j0, -⟩ := h.t
  refine (o_which h.G ht hT h.s j0 n hn hn9).imp fun r F' q => ?_
  obtain ⟨e, rfl⟩ := q
  have x : FX (fun b => b = 1) F (fp F 1 1 0) := FX.rf.fp rfl
  exact ⟨e, h.fx x (fun b (c : b = 1) => by omega), FX.kx h x (fun b (c : b = 1) => by omega)⟩
theorem e_which {F : FW} {D : DD} {n : Nat} (h : XR F D) (hn : F.1 69 2 = Int32.ofNat n) (hn9 : n ≤ 940) : Pm Z_X11_which [.ref 69] F (fun r F' => r = some (.int (a_which (dT D) n (fun q => F.1 70 q &&& 255))) ∧ XR F' D ∧ KC F F') :=
  (q_which h.T h.s h.G hn hn9).imp fun r F' q => by
  obtain ⟨e, rfl⟩ := q
  have x : FX (fun b => b = 69) F (fp (fp (fp (fp (fp F 69 0 0) 69 3 (Int32.ofNat n)) 69 2 0) 69 4 0) 69 5 940) := (((((FX.rf (P := fun b => b = 69)).fp rfl).fp rfl).fp rfl).fp rfl).fp rfl
  exact ⟨e, h.f69 x ((fp_ne (Or.inr (by decide))).trans ((fp_ne (Or.inr (by decide))).trans ((fp_ne (Or.inr (by decide))).trans ((fp_ne (Or.inr (by decide))).trans (fp_ne (Or.inr (by decide))))))), KC.f69 x⟩
end
-- 63.b9z.ops.lean.txt
section
/-! ===== a Strait and a LOG over both sides ===== -/
theorem SLT.r {F G : FW} (h : ∀ j, G.2.1 11 j = F.2.1 11 j) {a : Nat} (s : SLT G a) : SLT F a := by
  obtain ⟨j, v, h1, h2, h3⟩ := s
  exact ⟨j, v, h1, (h j).symm.trans h2, h3⟩
theorem IMS.ce {F G : FW} {I : Nat → Option Imx} (h : IMS F I) (e41 : ∀ k, G.2.1 41 k = F.2.1 41 k) (e11 : ∀ k, G.2.1 11 k = F.2.1 11 k) (c : F.2.2.2.1 ≤ G.2.2.2.1) (x : ∀ a, 88 ≤ a → a < F.2.2.2.1 → (∀ k, G.1 a k = F.1 a k) ∧ (∀ k, G.2.1 a k = F.2.1 a k) ∧ ∀ k, G.2.2.1 a k = F.2.2.1 a k) : IMS G I := by
  obtain ⟨vs, h1, h2⟩ := h
  refine ⟨vs, fun j hj => ?_, h2⟩
  have q := h1 j hj
  unfold IMC at q ⊢
  cases e : I j with
  | none =>
    rw [e] at q
    exact (e41 j).trans q
  | some y =>
    rw [e] at q
    obtain ⟨E, q⟩ := q
    have q3 := q.2.2.1
    have q2 := q.2.1
    have q9 := q.2.2.2.2.2.2.2.2
    exact ⟨E, q.ce (e41 j) c (fun a a1 a2 => x a (by omega) (by omega)) (fun a a1 a2 s => q9 a a1 a2 (SLT.r e11 s))⟩
theorem CR.mv {F G : FW} {B : Nat → Int} {n lim : Nat} {D : DD} (h : CR F D) (q : MVQ F G B n lim) : CR G D := by
  obtain ⟨z, g, -⟩ := q
  have c := h.c
  have z0 := (z.2 0 (by omega) (by decide)).2.1
  refine ⟨g, Nat.le_trans c z.1, ?_, ?_, h.s.frz z (by omega) (fun a a1 a2 => mvp_n (by omega)), h.h.frz z (fun a p => mvp_l p) c, h.i.ce (z.2 41 (by omega) (by decide)).2.1 (z.2 11 (by omega) (by decide)).2.1 z.1 (fun a a1 a2 => z.2 a a2 (mvp_n (by omega)))⟩
  · obtain ⟨t, p, j0, h1, h2, h3, h4⟩ := h.l
    exact ⟨t, p, j0, (z0 13).trans h1, (z0 14).trans h2, h3.frz z (by omega) (fun a a1 a2 => mvp_n (by omega)), h4.frz z (by omega) (mvp_n (by omega)) (mvp_n (by omega))⟩
  · obtain ⟨u, v, j0, h1, h2⟩ := h.e
    exact ⟨u, v, j0, (z0 15).trans h1, (z0 16).trans h2⟩
theorem KX.mv {F G : FW} {B : Nat → Int} {n lim : Nat} (c : 88 ≤ F.2.2.2.1) (q : MVQ F G B n lim) : KX F G := fun E x => by
  obtain ⟨z, g, -⟩ := q
  exact x.cells g (fun a k a1 a2 => (z.2 a (by omega) (mvp_n (by omega))).1 k) (fun a k a1 a2 => (z.2 a (by omega) (mvp_n (by omega))).2.2 k)
theorem KX.tr {F G K : FW} (a : KX F G) (b : KX G K) : KX F K := fun D h => b D (a D h)
theorem KC.tr {F G K : FW} (a : KC F G) (b : KC G K) : KC F K := fun D h => b D (a D h)
/-- what a Strait makes of all that is -/
def dSt (D : DD) (s : PS) (f : Int) : DD := if f = 0 then (psT s, s.nm, psS (psT s), 0, dH D, dI D) else D
theorem DOK.st {D : DD} {s : PS} {f : Int} {T : Nat → TT} {l i : Nat} (h : DOK D) (e : lns T l = some (s, i)) : DOK (dSt D s f) := by
  unfold dSt
  split
  · exact ⟨psT_b (lns_psk e), psS_i (lns_psk e), fun j hj => absurd hj (Nat.not_lt_zero j), h.2.2.2⟩
  · exact h
theorem stp_one {T : Nat → TT} {l l' i i' : Nat} {s s' : PS} {x x' : Int × Int} (h : lns T l = some (s, i)) (hx : stp T l s i = some x) (h' : lns T l' = some (s', i')) (hx' : stp T l' s' i' = some x') : l = l' ∧ s = s' ∧ x = x' := by
  rcases Nat.lt_trichotomy l l' with c | c | c
  · have z := lns_stop h hx (l' - (l + 1))
    rw [show l + 1 + (l' - (l + 1)) = l' by omega, h'] at z
    cases z
  · subst c
    obtain ⟨rfl, rfl⟩ := Prod.mk.inj (Option.some.inj (h.symm.trans h'))
    exact ⟨rfl, rfl, Option.some.inj (hx.symm.trans hx')⟩
  · have z := lns_stop h' hx' (l - (l' + 1))
    rw [show l' + 1 + (l - (l' + 1)) = l by omega, h] at z
    cases z
theorem HST.csf {p u m m' n : Nat} {F G : FW} {H H' : Nat → Sh} (h : HST F m n H) (x : CSF p u F G) (hp : p + 7 < 88) (hu : u < 88) (e : G.1 10 1 = 0) : HST G m' 0 H' := by
  obtain ⟨c, s, hW, h1, h2, h3⟩ := h
  have r11 : ∀ j, G.2.1 11 j = F.2.1 11 j := fun j => x.1 11 j (by omega)
  refine ⟨c, s, ⟨hW.1, fun j hj => ?_, fun j a b => (r11 j).trans (hW.2.2.1 j a b), hW.2.2.2⟩, Nat.zero_le _, e, fun j hj => absurd hj (Nat.not_lt_zero j)⟩
  obtain ⟨b1, b2, b3, b4⟩ := hW.2.1 j hj
  exact ⟨(r11 j).trans b1, fun i hi => (x.1 (s j) i (by omega)).trans (b2 i hi), b3, by rw [x.2.1]; exact b4⟩
theorem o7w {F : FW} (h : GW F) : O7 F 12 ∧ O7 F 20 ∧ O7 F 45 ∧ O7 F 53 := by
  refine ⟨fun j hj => ?_, fun j hj => ?_, fun j hj => ?_, fun j hj => ?_⟩ <;> (match j, hj with
    | 0, _ => exact h.at (by decide)
    | 1, _ => exact h.at (by decide)
    | 2, _ => exact h.at (by decide)
    | 3, _ => exact h.at (by decide)
    | 4, _ => exact h.at (by decide)
    | 5, _ => exact h.at (by decide)
    | 6, _ => exact h.at (by decide)
    | j + 7, h => exact absurd h (by omega))
theorem d_strait {tt : Nat → Nat} {hp : ab_H} {tn : Nat} {D : DD} (Hs : sf_h tt hp) (hce : sf_cE kq_X8_moveInto_v Z_X8_moveInto ke_X8_moveInto_v) (hn : sf_rd hp 1 1 = some (tn : Int)) (h : CR (fl hp) D) : Pj Z_X10_strait [.ref 0] hp (fun v F' => ∃ l i s a f, lns (tok (bv hp 2 tn) tn 900) l = some (s, i) ∧ stp (tok (bv hp 2 tn) tn 900) l s i = some (a, f) ∧ (∃ z, v = some (.int z)) ∧ (F'.1 0 18).toInt = f ∧ CR F' (dSt D s f) ∧ KX (fl hp) F') := by
  obtain ⟨t, p, j0, h13, h14, hT, hN⟩ := h.l
  obtain ⟨u, v, ju, h15, h16⟩ := h.e
  have w7 := o7w h.G
  refine (o_strait Hs hce hn h.G h13 h14 j0 h15 (by omega) w7.1 (by rcases j0 with ⟨-, rfl⟩ | ⟨-, rfl⟩; exact w7.2.2.2; exact w7.2.2.1) h.c).imp ?_
  rintro r F' ⟨F1, mv, l, i, s, hl, c⟩
  have h1 := h.mv mv
  have kx1 := KX.mv h.c mv
  have c1 := h1.c
  have z := mv.1
  have z0 := (z.2 0 (by have := h.c; omega) (by decide)).2.1
  rcases c with ⟨hst, e, sc, bg, r13, r14, i18, iu, i10, x⟩ | ⟨f, j, w, hst, hf, e, ew, e18, x, x0⟩
  · refine ⟨l, i, s, _, _, hl, hst, ⟨_, e⟩, by rw [i18]; rfl, ?_, kx1.tr ?_⟩
    · have k := lns_psk hl
      show CR F' (if (0 : Int) = 0 then (psT s, s.nm, psS (psT s), 0, dH D, dI D) else D)
      rw [if_pos rfl]
      refine ⟨x.G h1.G, by rw [x.2.1]; exact c1, ⟨p, t, by omega, r13, r14, sc.tr k, sc.nmc⟩, ⟨u, v, ju, (x.1 0 15 (by decide)).trans ((z0 15).trans h15), (x.1 0 16 (by decide)).trans ((z0 16).trans h16)⟩, bg.sh sc (x.O7 (by decide) (o7w h1.G).1), h1.h.csf x (by omega) (by omega) i10, h1.i.ce (fun k => x.1 41 k (by omega)) (fun k => x.1 11 k (by omega)) (by rw [x.2.1]; exact Nat.le_refl _) (fun a a1 a2 => ⟨fun k => x.2.2.1 a k (by omega), fun k => x.1 a k (by omega), fun k => x.2.2.2 a k (by omega)⟩)⟩
    · exact fun E y => y.cells (x.G h1.G) (fun a k a1 a2 => x.2.2.1 a k (by omega)) (fun a k a1 a2 => x.2.2.2 a k (by omega))
  · refine ⟨l, i, s, _, _, hl, hst, ⟨_, e⟩, e18, ?_, kx1.tr (FX.kx h1 x (fun q (c : q = 0 ∨ q = 3 ∨ (p ≤ q ∧ q ≤ p + 7)) => by omega))⟩
    unfold dSt
    rw [if_neg hf]
    have g := h1.G.fx x
    have r0 : ∀ k, F'.2.1 0 k = (fl hp).2.1 0 k := fun k => by rw [x.2.2.1]; exact z0 k
    have hT1 : TR F1 t (dT D) := hT.frz z (by have := h.c; show t + 8 ≤ _; omega) (fun a a1 a2 => mvp_n (by omega))
    have hN1 : NMC F1 t (dT D) (dN D) := hN.frz z (by have := h.c; show t + 3 ≤ _; omega) (mvp_n (by omega)) (mvp_n (by omega))
    refine ⟨g, by rw [x.2.2.2]; exact c1, ⟨t, p, j0, (r0 13).trans h13, (r0 14).trans h14, hT1.fx x (fun q a1 a2 (c : q = 0 ∨ q = 3 ∨ (p ≤ q ∧ q ≤ p + 7)) => by omega), hN1.ce fun a a1 a2 k => x.2.1 a k (fun (c : a = 0 ∨ a = 3 ∨ (p ≤ a ∧ a ≤ p + 7)) => by omega)⟩, ⟨u, v, ju, (r0 15).trans h15, (r0 16).trans h16⟩, h1.s.fx x (fun q a1 a2 (c : q = 0 ∨ q = 3 ∨ (p ≤ q ∧ q ≤ p + 7)) => by omega), h1.h.fx x (fun q (c : q = 0 ∨ q = 3 ∨ (p ≤ q ∧ q ≤ p + 7)) => by omega), h1.i.ce (fun k => by rw [x.2.2.1]) (fun k => by rw [x.2.2.1]) (by rw [x.2.2.2]; exact Nat.le_refl _) (fun a a1 a2 => ⟨fun k => x.1 a k (fun (c : a = 0 ∨ a = 3 ∨ (p ≤ a ∧ a ≤ p + 7)) => by omega), fun k => by rw [x.2.2.1], fun k => x.2.1 a k (fun (c : a = 0 ∨ a = 3 ∨ (p ≤ a ∧ a ≤ p + 7)) => by omega)⟩)⟩
end
-- 63.b9za.ops.lean.txt
section
theorem XR.sf {F G : FW} {D : DD} (h : XR F D) (x : SFX F G) : XR G D :=
  ⟨h.G.fx x.1, h.T.of fun k _ => x.1.1 71 k (by decide), h.s.of h.T.mb fun k _ _ => x.1.1 71 k (by decide), HSX.same h.h h.T.mb (x.2.1 25 (by decide) (by decide) (by decide) (by decide) (by decide) (by decide) (by decide) (by decide) (by decide) (by decide) (by decide) (by decide) (by decide) (by decide)) (fun k => x.1.1 77 k (by decide)), ⟨fun q hq => by rw [x.2.2.2 _ (by have := h.T.gb; omega)]; exact h.n.1 q hq, fun q hq => by rw [x.2.2.2 _ (by have := h.T.mb; omega)]; exact h.n.2 q hq⟩, x.W h.w, fun k hk => (h.i hk).ce (fun j => x.1.1 84 j (by decide)) (x.1.1 86 k (by decide)) (fun j => x.1.2.1 85 j (by decide))⟩
theorem e_strait {F : FW} {D : DD} {tn : Nat} (h : XR F D) (h2 : F.1 69 2 = Int32.ofNat tn) (htn : tn ≤ 940) : Pm Z_X11_strait [.ref 69] F (fun v F' => ∃ l i s a f, lns (tok (RBF F tn) tn 900) l = some (s, i) ∧ stp (tok (RBF F tn) tn 900) l s i = some (a, f) ∧ (∃ z, v = some (.int z)) ∧ (F'.1 69 15).toInt = f ∧ XR F' (dSt D s f) ∧ KC F F') := by
  refine (q_strait h.G h2 htn h.w).imp ?_
  rintro r F' ⟨K, sf, k2, l, i, s, hl, c⟩
  have hK := h.sf sf
  have kc1 : KC F K := sf.1.kc (fun q (c : q = 69 ∨ q = 72 ∨ q = 74 ∨ q = 76) => by omega)
  rcases c with ⟨hst, e, sr, z15, x⟩ | ⟨f, v, hst, hf, e, e15, rfl⟩
  · refine ⟨l, i, s, _, _, hl, hst, ⟨_, e⟩, by rw [x.2.1 15 (by decide), z15]; rfl, ?_, kc1.tr (x.1.kc (fun q (c : q = 69 ∨ q = 71 ∨ q = 74) => by omega))⟩
    have k := lns_psk hl
    show XR F' (if (0 : Int) = 0 then (psT s, s.nm, psS (psT s), 0, dH D, dI D) else D)
    rw [if_pos rfl]
    exact ⟨hK.G.fx x.1, x.xt sr k, x.xs sr k, ⟨x.2.2.1, Nat.zero_le _, fun j hj => absurd hj (Nat.not_lt_zero j)⟩, x.ng sr, fun j hj => (congrArg Int64.toInt (x.1.2.1 75 j (by decide))).trans (hK.w j hj), fun j hj => (hK.i hj).ce (fun q => x.1.1 84 q (by decide)) (x.1.1 86 j (by decide)) (fun q => x.1.2.1 85 q (by decide))⟩
  · refine ⟨l, i, s, _, _, hl, hst, ⟨_, e⟩, e15, ?_, kc1⟩
    unfold dSt
    rw [if_neg hf]
    exact hK
/-- what a LOG makes of all that is -/
def dLg (D : DD) (l : Int32) (nl : Nat) (L : LN) (c : Int32) : DD := if c = 0 then dK (decide (l = 1) && decide (0 < jn nl (m_fst (jP (dT D) L (dS D)) nl))) (if l = 1 then jr (dT D) L (dS D) (jn nl (m_fst (jP (dT D) L (dS D)) nl)) else dS D) D else D
def aLg (D : DD) (K : Nat → TT) (nl : Nat) (L : LN) (c : Int32) (j : Nat) (r : Option Value) : Prop := (c = 0 → r = some (.int (oN (m_fst (jP (dT D) L (dS D)) nl)))) ∧ (¬ c = 0 → ∃ v, r = some (.int (-2 - v)) ∧ Int32.toInt v = (K j).pl)
theorem DOK.lg {D : DD} {K : Nat → TT} {nm : Nat → Int} {l c : Int32} {nl j : Nat} {L : LN} (h : DOK D) (hg : t_g (dT D) ≤ 6) (a : LGA K nm (t_g (dT D)) (t_m (dT D)) nl L c j) : DOK (dLg D l nl L c) := by
  unfold dLg
  split
  · refine h.k ?_
    split
    · exact INV_jr h.1 hg h.2.1 _ fun q hq => a.ok hg q (Nat.lt_of_lt_of_le hq jn_le)
    · exact h.2.1
  · exact h
theorem d_log {tt : Nat → Nat} {hp : ab_H} {tn : Nat} {D : DD} {l : Int32} (Hs : sf_h tt hp) (hce : sf_cE kq_X8_moveInto_v Z_X8_moveInto ke_X8_moveInto_v) (hn : sf_rd hp 1 1 = some (tn : Int)) (h : CR (fl hp) D) : Pj Z_X10_log [.ref 0, .int l] hp (fun r F' => KX (fl hp) F' ∧ ((¬ (l = 0 ∨ l = 1) ∧ r = some (.int (-1000)) ∧ CR F' D) ∨ ((l = 0 ∨ l = 1) ∧ ∃ nl L c j, LGA (tok (bv hp 2 tn) tn 400) (dN D) (t_g (dT D)) (t_m (dT D)) nl L c j ∧ aLg D (tok (bv hp 2 tn) tn 400) nl L c j r ∧ F'.1 0 18 = c ∧ CR F' (dLg D l nl L c)))) := by
  obtain ⟨t, h13, hT, j0, hN⟩ := h.t
  have w7 := o7w h.G
  refine (o_log (l := l) Hs hce hn h.G h13 hT j0 h.s w7.2.1 h.h h.c hN).imp ?_
  rintro r F' (⟨a, e, rfl⟩ | ⟨a, F1, mv, kf, x0, c⟩)
  · exact ⟨KX.rf, Or.inl ⟨a, e, h⟩⟩
  · have h1 := h.mv mv
    have kx := (KX.mv h.c mv).tr (KF.kx h1 kf (fun q c => by unfold LCP at c; omega))
    refine ⟨kx, Or.inr ⟨a, ?_⟩⟩
    rcases c with ⟨nl, L, j, hA, e, e18, hk, hs, -⟩ | ⟨v, e, hh, hs, -, nl, L, c, j, hA, hc, e18, ev⟩
    · refine ⟨nl, L, 0, j, hA, ⟨fun _ => e, fun q => absurd rfl q⟩, e18, ?_⟩
      unfold dLg
      rw [if_pos rfl]
      exact CR.kf h1 kf (fun q c => by unfold LCP at c; omega) hs (n' := if (decide (l = 1) && decide (0 < jn nl (m_fst (jP (dT D) L (dS D)) nl))) = true then m_kn (dn D) else dn D) (H' := if (decide (l = 1) && decide (0 < jn nl (m_fst (jP (dT D) L (dS D)) nl))) = true then m_kH (dn D) (dH D) (dS D) else dH D) (by
        cases b : (decide (l = 1) && decide (0 < jn nl (m_fst (jP (dT D) L (dS D)) nl))) with
        | false =>
          rw [b] at hk
          exact hk
        | true =>
          rw [b] at hk
          exact hk)
    · refine ⟨nl, L, c, j, hA, ⟨fun q => absurd q hc, fun _ => ⟨v, e, ev⟩⟩, e18, ?_⟩
      unfold dLg
      rw [if_neg hc]
      exact CR.kf h1 kf (fun q c => by unfold LCP at c; omega) hs hh
theorem e_log {F : FW} {D : DD} {tn : Nat} {l : Int32} (h : XR F D) (k : DOK D) (h2 : F.1 69 2 = Int32.ofNat tn) (htn : tn ≤ 940) : Pm Z_X11_log [.ref 69, .int l] F (fun r F' => KC F F' ∧ ((¬ (l = 0 ∨ l = 1) ∧ r = some (.int (-1000)) ∧ XR F' D) ∨ ((l = 0 ∨ l = 1) ∧ ∃ nl L c j, LGA (tok (RBF F tn) tn 400) (dN D) (t_g (dT D)) (t_m (dT D)) nl L c j ∧ aLg D (tok (RBF F tn) tn 400) nl L c j r ∧ F'.1 69 15 = c ∧ XR F' (dLg D l nl L c)))) := by
  refine (q_log (l := l) h.G h.T k.1 k.2.1 h.s h.h h.n.1 h.n.2 h.w h2 htn).imp ?_
  rintro r F' (⟨a, e, rfl⟩ | ⟨a, F1, tk, z2, c⟩)
  · exact ⟨KC.f69 (FX.rf.fp rfl), Or.inl ⟨a, e, h.f69 (FX.rf.fp rfl) (fp_ne (Or.inr (by decide)))⟩⟩
  · have n25 : F1.1 69 25 = F.1 69 25 := tk.2.1 25 (by decide) (by decide) (by decide) (by decide) (by decide) (by decide) (by decide) (by decide) (by decide) (by decide) (by decide)
    have h1 := h.f69 tk.1 n25
    have kc1 := KC.f69 tk.1
    have rz : ∀ G, RZX F1 G → XR G D ∧ KC F1 G := fun G x => ⟨h1.st x.1 (fun q (c : q = 69 ∨ q = 73) => by omega) (fun k _ => x.1.1 71 k (by decide)) (x.S h1.T.mb h1.s) (x.H h1.T.mb h1.h), x.1.kc (fun q (c : q = 69 ∨ q = 73) => by omega)⟩
    rcases c with ⟨nl, L, j, F2, hA, -, hz, z15, e, lx, xs, hk, -⟩ | ⟨v, e, nl, L, c, j, hA, hc, hz, e15, ev⟩
    · obtain ⟨hx, kc2⟩ := rz F2 hz
      refine ⟨(kc1.tr kc2).tr (lx.1.kc (fun q (c : q = 69 ∨ q = 71 ∨ q = 77 ∨ q = 78 ∨ q = 81) => by omega)), Or.inr ⟨a, nl, L, 0, j, hA, ⟨fun _ => e, fun q => absurd rfl q⟩, (lx.2.2 15 (by decide) (by decide) (by decide) (by decide) (by decide)).trans z15, ?_⟩⟩
      unfold dLg
      rw [if_pos rfl]
      exact hx.st lx.1 (fun q (c : q = 69 ∨ q = 71 ∨ q = 77 ∨ q = 78 ∨ q = 81) => by omega) (fun k hk => lx.2.1 k (Or.inl hk)) xs (n' := if (decide (l = 1) && decide (0 < jn nl (m_fst (jP (dT D) L (dS D)) nl))) = true then m_kn (dn D) else dn D) (H' := if (decide (l = 1) && decide (0 < jn nl (m_fst (jP (dT D) L (dS D)) nl))) = true then m_kH (dn D) (dH D) (dS D) else dH D) (by
        cases b : (decide (l = 1) && decide (0 < jn nl (m_fst (jP (dT D) L (dS D)) nl))) with
        | false =>
          rw [b] at hk
          exact hk
        | true =>
          rw [b] at hk
          exact hk)
    · obtain ⟨hx, kc2⟩ := rz F' hz
      refine ⟨kc1.tr kc2, Or.inr ⟨a, nl, L, c, j, hA, ⟨fun q => absurd q hc, fun _ => ⟨v, e, ev⟩⟩, e15, ?_⟩⟩
      unfold dLg
      rw [if_neg hc]
      exact hx
end
-- 63.b9zb.ops.lean.txt
section
/-! ===== images over both sides ===== -/
theorem SE.any {F : FW} {u : Nat} (o : O3 F u) : ∃ E, SE F u E := ⟨(F.1 u 3, F.1 u 4, F.1 u 5, F.1 (u + 1), F.1 (u + 2), F.1 (u + 3)), o, rfl, rfl, rfl, fun _ _ => rfl, fun _ _ => rfl, fun _ _ => rfl⟩
theorem o3w {F : FW} (h : GW F) : O3 F 61 ∧ O3 F 65 := by
  refine ⟨fun j hj => ?_, fun j hj => ?_⟩ <;> (match j, hj with
    | 0, _ => exact h.at (by decide)
    | 1, _ => exact h.at (by decide)
    | 2, _ => exact h.at (by decide)
    | j + 3, h => exact absurd h (by omega))
theorem HST.sl {F : FW} {m n a : Nat} {H : Nat → Sh} (h : HST F m n H) (s : SLT F a) : a < F.2.2.2.1 := by
  obtain ⟨j, v, hj, e, h1, h2⟩ := s
  obtain ⟨c, s, hW, -⟩ := h
  rcases Nat.lt_or_ge j c with q | q
  · have w := hW.2.1 j q
    rw [w.1] at e
    obtain rfl := Value.ref.inj e
    omega
  · have w := hW.2.2.1 j q hj
    rw [w] at e
    cases e
theorem HST.fxn {P : Nat → Prop} {F G : FW} {m n : Nat} {H : Nat → Sh} (h : HST F m n H) (x : FX P F G) (c : ∀ a, P a → a ≠ 10 ∧ ¬ SLT F a) : HST G m n H := by
  obtain ⟨k, s, hW, h1, h2, h3⟩ := h
  refine ⟨k, s, ⟨hW.1, fun j hj => ?_, fun j a b => by rw [x.2.2.1]; exact hW.2.2.1 j a b, hW.2.2.2⟩, h1, (x.1 10 1 (fun q => (c 10 q).1 rfl)).trans h2, fun j hj => ?_⟩
  · obtain ⟨b1, b2, b3, b4⟩ := hW.2.1 j hj
    exact ⟨by rw [x.2.2.1]; exact b1, x.O7 b2, b3, by rw [x.2.2.2]; exact b4⟩
  · have b := hW.2.1 j (by omega)
    exact (h3 j hj).fx x (fun a c1 c2 p => (c a p).2 ⟨j, s j, by have := hW.1; omega, b.1, c1, c2⟩)
theorem HST.z {P : Nat → Prop} {F G : FW} {m m' n : Nat} {H H' : Nat → Sh} (h : HST F m n H) (x : FX P F G) (e : G.1 10 1 = 0) : HST G m' 0 H' := by
  obtain ⟨k, s, hW, h1, h2, h3⟩ := h
  refine ⟨k, s, ⟨hW.1, fun j hj => ?_, fun j a b => by rw [x.2.2.1]; exact hW.2.2.1 j a b, hW.2.2.2⟩, Nat.zero_le _, e, fun j hj => absurd hj (Nat.not_lt_zero j)⟩
  obtain ⟨b1, b2, b3, b4⟩ := hW.2.1 j hj
  exact ⟨by rw [x.2.2.1]; exact b1, x.O7 b2, b3, by rw [x.2.2.2]; exact b4⟩
def dIm (D : DD) (k : Nat) : DD := (dT D, dN D, dS D, dn D, dH D, fun j => if j = k then some (dT D, dN D, dS D) else dI D j)
theorem DOK.im {D : DD} {k : Nat} (h : DOK D) : DOK (dIm D k) := by
  refine ⟨h.1, h.2.1, h.2.2.1, fun j x e => ?_⟩
  have e' : (if j = k then some (dT D, dN D, dS D) else dI D j) = some x := e
  by_cases c : j = k
  · rw [if_pos c] at e'
    obtain rfl := Option.some.inj e'
    exact ⟨h.1, h.2.1⟩
  · rw [if_neg c] at e'
    exact h.2.2.2 j x e'
def dRs (D : DD) (k : Nat) : DD := match dI D k with
  | none => D
  | some x => (x.1, x.2.1, x.2.2, 0, dH D, dI D)
theorem DOK.rs {D : DD} {k : Nat} (h : DOK D) : DOK (dRs D k) := by
  unfold dRs
  cases e : dI D k with
  | none => exact h
  | some x => exact ⟨(h.2.2.2 k x e).1, (h.2.2.2 k x e).2, fun j hj => absurd hj (Nat.not_lt_zero j), h.2.2.2⟩
def dImo (D : DD) (o : Option Nat) : DD := match o with
  | none => D
  | some k => dIm D k
def dRso (D : DD) (o : Option Nat) : DD := match o with
  | none => D
  | some k => dRs D k
theorem d_image {F : FW} {D : DD} (h : CR F D) (x : Int32) : Pm Z_X10_image [.ref 0, .int x] F (fun r F' => (∃ z, r = some (.int z)) ∧ CR F' (dImo D (nd 2 x)) ∧ KX F F') := by
  cases hx : nd 2 x with
  | none => exact (o_image_n hx).imp fun r F' q => ⟨⟨_, q.1⟩, by rw [q.2]; exact h, by rw [q.2]; exact KX.rf⟩
  | some k =>
    obtain ⟨hk, rfl⟩ := nd_some hx
    obtain ⟨t, p, j0, h13, h14, hT, hN⟩ := h.l
    obtain ⟨u, w, ju, h15, h16⟩ := h.e
    have w3 := o3w h.G
    obtain ⟨E, hE⟩ : ∃ E, SE F u E := SE.any (by rcases ju with ⟨rfl, -⟩ | ⟨rfl, -⟩; exact w3.1; exact w3.2)
    obtain ⟨vs, iv, dj⟩ := h.i
    have ik := iv k hk
    unfold IMC at ik
    cases e : dI D k with
    | none =>
      rw [e] at ik
      refine (o_image_0 h.G hk ik h.c h13 hT hN h.s (by omega) h15 (by omega) hE).imp ?_
      rintro r F' ⟨er, c21, z, ej, ek, o3, tT, tN, tS, tE⟩
      have c := h.c
      have r0 := (z.2 0 (by omega) (by decide)).2.1
      have r11 := (z.2 11 (by omega) (by decide)).2.1
      have g := h.G.frz z c (fun y my => wires_41 y my)
      refine ⟨⟨_, er⟩, ⟨g, by omega, ⟨t, p, j0, (r0 13).trans h13, (r0 14).trans h14, hT.frz z (by omega) (fun a a1 a2 => by omega), hN.frz z (by omega) (by omega) (by omega)⟩, ⟨u, w, ju, (r0 15).trans h15, (r0 16).trans h16⟩, h.s.frz z (by omega) (fun a a1 a2 => by omega), h.h.frz z (fun a (q : a = 41) => by omega) c, ?_⟩, fun X y => y.cells g (fun a q a1 a2 => (z.2 a (by omega) (by omega)).1 q) (fun a q a1 a2 => (z.2 a (by omega) (by omega)).2.2 q)⟩
      have other : ∀ j, j < 2 → j ≠ k → IMC F' j (vs j) (dI D j) := fun j hj jk => by
        have q := iv j hj
        unfold IMC at q ⊢
        cases e2 : dI D j with
        | none =>
          rw [e2] at q
          exact (ej j jk).trans q
        | some y =>
          rw [e2] at q
          obtain ⟨E2, q⟩ := q
          have q3 := q.2.2.1
          have q2 := q.2.1
          have q9 := q.2.2.2.2.2.2.2.2
          exact ⟨E2, q.ce (ej j jk) (by omega) (fun a a1 a2 => z.2 a (by omega) (by omega)) (fun a a1 a2 s => q9 a a1 a2 (SLT.r r11 s))⟩
      refine ⟨fun j => if j = k then F.2.2.2.1 else vs j, fun j hj => ?_, ?_⟩
      · show IMC F' j (if j = k then F.2.2.2.1 else vs j) (if j = k then some (dT D, dN D, dS D) else dI D j)
        by_cases jk : j = k
        · rw [if_pos jk, if_pos jk, jk]
          exact ⟨E, ek, c, by omega, o3, tT, tN, tS, tE, fun a a1 a2 s => by have := h.h.sl (SLT.r r11 s); omega⟩
        · rw [if_neg jk, if_neg jk]
          exact other j hj jk
      · intro s0 s1
        show (if 0 = k then F.2.2.2.1 else vs 0) + 21 ≤ (if 1 = k then F.2.2.2.1 else vs 1) ∨ (if 1 = k then F.2.2.2.1 else vs 1) + 21 ≤ (if 0 = k then F.2.2.2.1 else vs 0)
        have bd : ∀ j, j < 2 → (dI D j).isSome = true → vs j + 21 ≤ F.2.2.2.1 := fun j hj sj => by
          have q := iv j hj
          unfold IMC at q
          cases e2 : dI D j with
          | none =>
            rw [e2] at sj
            cases sj
          | some y =>
            rw [e2] at q
            obtain ⟨E2, q⟩ := q
            exact q.2.2.1
        rcases (show k = 0 ∨ k = 1 by omega) with rfl | rfl
        · rw [if_pos rfl, if_neg (by decide)]
          exact Or.inr (bd 1 (by decide) s1)
        · rw [if_neg (by decide), if_pos rfl]
          exact Or.inl (bd 0 (by decide) s0)
    | some y =>
      rw [e] at ik
      obtain ⟨E2, iq⟩ := ik
      have i41 := iq.1
      have i88 := iq.2.1
      have ic := iq.2.2.1
      have i9 := iq.2.2.2.2.2.2.2.2
      refine (o_image_1 h.G hk i41 i88 iq.2.2.2.1 iq.2.2.2.2.1.o iq.2.2.2.2.2.2.1.o iq.2.2.2.2.2.2.2.1.o h13 hT hN h.s (by omega) h15 (by omega) hE).imp ?_
      rintro r F' ⟨er, z, tT, tN, tS, tE⟩
      have c := h.c
      have g := h.G.fx z
      have r2 : ∀ a q, F'.2.1 a q = F.2.1 a q := fun a q => by rw [z.2.2.1]
      refine ⟨⟨_, er⟩, ⟨g, by rw [z.2.2.2]; exact c, ⟨t, p, j0, (r2 0 13).trans h13, (r2 0 14).trans h14, hT.fx z (fun a a1 a2 (q : vs k ≤ a ∧ a ≤ vs k + 20) => by omega), hN.ce fun a a1 a2 q => z.2.1 a q (fun (b : vs k ≤ a ∧ a ≤ vs k + 20) => by omega)⟩, ⟨u, w, ju, (r2 0 15).trans h15, (r2 0 16).trans h16⟩, h.s.fx z (fun a a1 a2 (q : vs k ≤ a ∧ a ≤ vs k + 20) => by omega), h.h.fxn z (fun a (q : vs k ≤ a ∧ a ≤ vs k + 20) => ⟨by omega, i9 a q.1 q.2⟩), vs, fun j hj => ?_, ?_⟩, fun X y => y.cells g (fun a q a1 a2 => z.1 a q (fun (b : vs k ≤ a ∧ a ≤ vs k + 20) => by omega)) (fun a q a1 a2 => z.2.1 a q (fun (b : vs k ≤ a ∧ a ≤ vs k + 20) => by omega))⟩
      · show IMC F' j (vs j) (if j = k then some (dT D, dN D, dS D) else dI D j)
        by_cases jk : j = k
        · rw [if_pos jk, jk]
          exact ⟨E, (r2 41 k).trans i41, i88, by rw [z.2.2.2]; exact ic, ⟨(r2 _ _).trans iq.2.2.2.1.1, (r2 _ _).trans iq.2.2.2.1.2.1, (r2 _ _).trans iq.2.2.2.1.2.2⟩, tT, tN, tS, tE, fun a a1 a2 s => i9 a a1 a2 (SLT.r (r2 11) s)⟩
        · rw [if_neg jk]
          have q := iv j hj
          unfold IMC at q ⊢
          cases e2 : dI D j with
          | none =>
            rw [e2] at q
            exact (r2 41 j).trans q
          | some y2 =>
            rw [e2] at q
            obtain ⟨E3, q⟩ := q
            have q3 := q.2.2.1
            have q2 := q.2.1
            have q9 := q.2.2.2.2.2.2.2.2
            have ds : vs k + 21 ≤ vs j ∨ vs j + 21 ≤ vs k := by
              rcases (show k = 0 ∧ j = 1 ∨ k = 1 ∧ j = 0 by omega) with ⟨rfl, rfl⟩ | ⟨rfl, rfl⟩
              · exact dj (by rw [e]; rfl) (by rw [e2]; rfl)
              · exact (dj (by rw [e2]; rfl) (by rw [e]; rfl)).symm
            have np : ∀ a, vs j ≤ a → a ≤ vs j + 20 → ¬ (vs k ≤ a ∧ a ≤ vs k + 20) := fun a a1 a2 b => by omega
            exact ⟨E3, q.ce (r2 41 j) (by rw [z.2.2.2]; exact Nat.le_refl _) (fun a a1 a2 => ⟨fun i => z.1 a i (np a a1 a2), r2 a, fun i => z.2.1 a i (np a a1 a2)⟩) (fun a a1 a2 s => q9 a a1 a2 (SLT.r (r2 11) s))⟩
      · intro s0 s1
        have s0' : (if 0 = k then some (dT D, dN D, dS D) else dI D 0).isSome = true := s0
        have s1' : (if 1 = k then some (dT D, dN D, dS D) else dI D 1).isSome = true := s1
        refine dj ?_ ?_
        · by_cases q : 0 = k
          · rw [q, e]
            rfl
          · rw [if_neg q] at s0'
            exact s0'
        · by_cases q : 1 = k
          · rw [q, e]
            rfl
          · rw [if_neg q] at s1'
            exact s1'
theorem d_restore {F : FW} {D : DD} (h : CR F D) (x : Int32) : Pm Z_X10_restore [.ref 0, .int x] F (fun r F' => (∃ z, r = some (.int z)) ∧ CR F' (dRso D (nd 2 x)) ∧ KX F F') := by
  cases hx : nd 2 x with
  | none => exact (o_restore_n hx).imp fun r F' q => ⟨⟨_, q.1⟩, by rw [q.2]; exact h, by rw [q.2]; exact KX.rf⟩
  | some k =>
    obtain ⟨hk, rfl⟩ := nd_some hx
    obtain ⟨t, p, j0, h13, h14, hT, hN⟩ := h.l
    obtain ⟨u, w, ju, h15, h16⟩ := h.e
    have w3 := o3w h.G
    obtain ⟨E, hE⟩ : ∃ E, SE F u E := SE.any (by rcases ju with ⟨rfl, -⟩ | ⟨rfl, -⟩; exact w3.1; exact w3.2)
    have ik : IMC F k (h.i.choose k) (dI D k) := h.i.choose_spec.1 k hk
    unfold IMC at ik
    show Pm _ _ _ (fun r F' => (∃ z, r = some (.int z)) ∧ CR F' (dRs D k) ∧ KX F F')
    unfold dRs
    cases e : dI D k with
    | none =>
      rw [e] at ik
      exact (o_restore_0 h.G hk ik).imp fun r F' q => ⟨⟨_, q.1⟩, by rw [q.2]; exact h, by rw [q.2]; exact KX.rf⟩
    | some y =>
      rw [e] at ik
      obtain ⟨E2, iq⟩ := ik
      refine (o_restore_1 h.G hk iq.1 iq.2.1 iq.2.2.2.1 iq.2.2.2.2.1 iq.2.2.2.2.2.1 iq.2.2.2.2.2.2.1 iq.2.2.2.2.2.2.2.1 h13 hT (by omega) h15 (by omega) hE).imp ?_
      rintro r F' ⟨er, z, tT, tN, tS, tE, i10⟩
      have g := h.G.fx z
      have r2 : ∀ a q, F'.2.1 a q = F.2.1 a q := fun a q => by rw [z.2.2.1]
      have np : ∀ a, 69 ≤ a → ¬ ((t ≤ a ∧ a ≤ t + 7) ∨ (12 ≤ a ∧ a ≤ 19) ∨ (u ≤ a ∧ a ≤ u + 3) ∨ a = 10) := fun a a1 b => by omega
      exact ⟨⟨_, er⟩, ⟨g, by rw [z.2.2.2]; exact h.c, ⟨t, p, j0, (r2 0 13).trans h13, (r2 0 14).trans h14, tT, tN⟩, ⟨u, w, ju, (r2 0 15).trans h15, (r2 0 16).trans h16⟩, tS, h.h.z z i10, h.i.ce (r2 41) (r2 11) (by rw [z.2.2.2]; exact Nat.le_refl _) (fun a a1 a2 => ⟨fun i => z.1 a i (np a (by omega)), r2 a, fun i => z.2.1 a i (np a (by omega))⟩)⟩, fun X y => y.cells g (fun a q a1 a2 => z.1 a q (np a a1)) (fun a q a1 a2 => z.2.1 a q (np a a1))⟩
end
-- 63.b9zc.ops.lean.txt
section
theorem IXC.bl {F G : FW} {k : Nat} {o : Option Imx} (h : IXC F k o) (e : ∀ i, i < 434 → G.1 84 (434 * k + i) = F.1 84 (434 * k + i)) (e6 : G.1 86 k = F.1 86 k) (e5 : ∀ i, i < 14 → G.2.2.1 85 (14 * k + i) = F.2.2.1 85 (14 * k + i)) : IXC G k o := by
  unfold IXC at h ⊢
  cases o with
  | none => exact e6.trans h
  | some x =>
    obtain ⟨h1, h2, h3, h4, h5⟩ := h
    have q : ∀ j, j < 434 → (fcp G 84 71 (434 * k) 0 434).1 71 j = (fcp F 84 71 (434 * k) 0 434).1 71 j := fun j hj => by
      rw [fcp_in (by omega), fcp_in (by omega)]
      exact e _ (by omega)
    have b1 := h2.gb
    have b2 := h2.mb
    exact ⟨by rw [e6]; exact h1, h2.of fun j hj => q j (by omega), h3.of b2 fun j a1 a2 => q j (by omega), fun g hg => by rw [e5 _ (by omega)]; exact h4 g hg, fun g hg => by rw [e5 _ (by omega)]; exact h5 g hg⟩
theorem e_image {F : FW} {D : DD} (h : XR F D) (x : Int32) : Pm Z_X11_image [.ref 69, .int x] F (fun r F' => (∃ z, r = some (.int z)) ∧ XR F' (dImo D (nd 2 x)) ∧ KC F F') := by
  cases hx : nd 2 x with
  | none => exact QO3q (Q := fun r => ∃ z, r = some (.int z)) h ((q_image_n hx).imp fun r F' q => ⟨⟨_, q.1⟩, q.2⟩)
  | some k =>
    obtain ⟨hk, rfl⟩ := nd_some hx
    refine (q_image_y h.G hk).imp ?_
    rintro r F' ⟨er, z, e1, e2, e9, e6, e7, l1, l2⟩
    have e71 : ∀ j, F'.1 71 j = F.1 71 j := fun j => z.1 71 j (by decide)
    have l74 : ∀ j, F'.2.2.1 74 j = F.2.2.1 74 j := fun j => z.2.1 74 j (by decide)
    have q : ∀ j, j < 434 → (fcp F' 84 71 (434 * k) 0 434).1 71 j = F.1 71 j := fun j hj => by
      rw [fcp_in (by omega)]
      have := e1 j hj
      rw [show j - 0 = j by omega]
      exact this
    have b1 := h.T.gb
    have b2 := h.T.mb
    refine ⟨⟨_, er⟩, ⟨h.G.fx z, h.T.of fun j _ => e71 j, h.s.of b2 fun j _ _ => e71 j, HSX.same h.h b2 (e9 25 (by decide)) (fun j => z.1 77 j (by decide)), ⟨fun g hg => by rw [l74]; exact h.n.1 g hg, fun g hg => by rw [l74]; exact h.n.2 g hg⟩, fun j hj => (congrArg Int64.toInt (z.2.1 75 j (by decide))).trans (h.w j hj), fun j hj => ?_⟩, z.kc (fun q (c : q = 69 ∨ q = 84 ∨ q = 85 ∨ q = 86) => by omega)⟩
    show IXC F' j (if j = k then some (dT D, dN D, dS D) else dI D j)
    by_cases c : j = k
    · rw [if_pos c, c]
      refine ⟨by rw [e6]; decide, h.T.of fun i hi => q i (by omega), h.s.of b2 fun i a1 a2 => q i (by omega), fun g hg => ?_, fun g hg => ?_⟩
      · have hg' : g < t_g (dT D) := hg
        rw [l1 _ (by omega)]
        exact h.n.1 g hg
      · have hg' : g < t_m (dT D) := hg
        rw [l1 _ (by omega)]
        exact h.n.2 g hg
    · rw [if_neg c]
      exact (h.i hj).bl (fun i hi => e2 _ (by omega)) (e7 j c) (fun i hi => l2 _ (by omega))
theorem e_restore {F : FW} {D : DD} (h : XR F D) (x : Int32) : Pm Z_X11_restore [.ref 69, .int x] F (fun r F' => (∃ z, r = some (.int z)) ∧ XR F' (dRso D (nd 2 x)) ∧ KC F F') := by
  cases hx : nd 2 x with
  | none => exact QO3q (Q := fun r => ∃ z, r = some (.int z)) h ((q_restore_n hx).imp fun r F' q => ⟨⟨_, q.1⟩, q.2⟩)
  | some k =>
    obtain ⟨hk, rfl⟩ := nd_some hx
    have ik := h.i hk
    unfold IXC at ik
    show Pm _ _ _ (fun r F' => (∃ z, r = some (.int z)) ∧ XR F' (dRs D k) ∧ KC F F')
    unfold dRs
    cases e : dI D k with
    | none =>
      rw [e] at ik
      exact QO3q (Q := fun r => ∃ z, r = some (.int z)) h ((q_restore_z h.G hk rfl ik).imp fun r F' q => ⟨⟨_, q.1⟩, q.2⟩)
    | some y =>
      rw [e] at ik
      obtain ⟨i1, i2, i3, i4, i5⟩ := ik
      refine (q_restore_y h.G hk rfl i1).imp ?_
      rintro r F' ⟨er, z, e1, e9, e25, l1, l2⟩
      have q : ∀ j, j < 434 → F'.1 71 j = (fcp F 84 71 (434 * k) 0 434).1 71 j := fun j hj => by
        rw [fcp_in (by omega), show j - 0 = j by omega]
        exact e1 j hj
      have b1 := i2.gb
      have b2 := i2.mb
      exact ⟨⟨_, er⟩, ⟨h.G.fx z, i2.of fun j hj => q j (by omega), i3.of b2 fun j a1 a2 => q j (by omega), ⟨e25, Nat.zero_le _, fun j hj => absurd hj (Nat.not_lt_zero j)⟩, ⟨fun g (hg : g < t_g y.1) => by rw [l1 _ (by omega)]; exact i4 g hg, fun g (hg : g < t_m y.1) => by rw [l1 _ (by omega)]; exact i5 g hg⟩, fun j hj => (congrArg Int64.toInt (z.2.1 75 j (by decide))).trans (h.w j hj), fun j hj => (h.i hj).ce (fun i => z.1 84 i (by decide)) (z.1 86 j (by decide)) (fun i => z.2.1 85 i (by decide))⟩, z.kc (fun q (c : q = 69 ∨ q = 71 ∨ q = 74) => by omega)⟩
end
