set_option maxRecDepth 100000 in
set_option maxHeartbeats 4000000 in
theorem r_ln256 {F : FW} {B : Nat → Int} {n lim i : Nat} (hG : GW F) (hT : RTK F B n lim i) {s : PS} {g m : Nat} (hs : SRF F s) (hg : s.h 0 = (g : Int)) (hm : s.h 1 = (m : Int)) (hR : RWF F) {so : Nat} (hso : so < 4) (N : Nat) : Pv (ab_T (L_X11_line Z_X11_isWord Z_X11_bad Z_X11_next Z_X11_puts Z_X11_fresh Z_X11_readMisses Z_X11_takesName Z_X11_bitOf)) N 256 [some (.ref 69), some (.int (Int32.ofNat so)), none, none] [] F (fun r F' => LRQ F F' B n lim r (lnAmt (tok B n lim) s i so)) := by
  obtain ⟨Q, hQ⟩ : ∃ Q : Option Value → FW → Prop, Q = (fun r F' => LRQ F F' B n lim r (lnAmt (tok B n lim) s i so)) := ⟨_, rfl⟩
  rw [← hQ]
  have bb := hs.b
  unfold PSB at bb
  have bg : g ≤ 6 := by omega
  have bm : m ≤ 8 := by omega
  refine (show Pv (ab_T (L_X11_line Z_X11_isWord Z_X11_bad Z_X11_next Z_X11_puts Z_X11_fresh Z_X11_readMisses Z_X11_takesName Z_X11_bitOf)) N 256 [some (.ref 69), some (.int (Int32.ofNat so)), none, none] [] F Q from ?_)
  refine Pv.aload rfl rfl ?_
  refine Pv.callV (as := [.ref 69]) (rest := []) rfl rfl rfl (r_next hG hT) ?_
  rintro _ Gn ⟨rfl, xn, tn⟩
  have gn := RNX.G xn hG
  have sn1 := hs.lx (RLX.of xn)
  refine (show Pv _ _ 260 [some (.ref 69), some (.int (Int32.ofNat so)), none, none] [] Gn Q from ?_)
  refine Pv.aload rfl rfl ?_
  refine Pv.lit rfl ?_
  refine Pv.aload rfl rfl ?_
  refine Pv.getR (v := .ref 72) rfl rfl (GW.at (a := 69) (k := 7) (b := 72) gn (by decide)) ?_
  refine Pv.lit rfl ?_
  refine Pv.ald (z := Int32.ofNat g) rfl ((xn.1.1 72 0 (by decide)).trans (hs.at (by decide) hg)) ?_
  refine Pv.callV (as := [.ref 69, .int 14, .int (Int32.ofNat g)]) (rest := []) rfl rfl rfl (r_takesName (nm := sn s) (o := 14) (q := g) gn tn (by decide) (by omega) (sn1.g hg) ((RLX.of xn).RW hR)) ?_
  rintro _ G2 ⟨rfl, h2x, hv2x⟩
  have h2 : RSP Gn G2 B n lim (i + 1) (i + 2) (lkc (sn s) 14 g (tok B n lim (i + 1))) := h2x
  have hv2 : lkc (sn s) 14 g (tok B n lim (i + 1)) = 0 → G2.1 69 18 = oN (m_fst (fP (sn s) 14 (tok B n lim (i + 1)).v) g) := hv2x
  have g2 := RLX.G h2.1 gn
  refine (show Pv _ _ 272 [some (.ref 69), some (.int (Int32.ofNat so)), none, none] [.int (b2i (decide (lkc (sn s) 14 g (tok B n lim (i + 1)) = 0)))] G2 Q from ?_)
  refine Pv.if0 rfl (fun c1 => ?_) (fun c1 => ?_)
  · skip
    replace c1 : decide (b2i (decide (lkc (sn s) 14 g (tok B n lim (i + 1)) = 0)) = 0) = false := by simpa using c1
    replace c1 := of_decide_eq_false c1
    replace c1 := b2n.mp c1
    have e2 := of_decide_eq_true c1
    obtain ⟨w1, hw1, hf1, l1⟩ := lold_y (s := s) (o := 0) (fun _ => sn_g) (by omega) e2
    have hw18 : G2.1 69 18 = Int32.ofNat w1 := by rw [hv2 e2, hf1]; rfl
    have tn2 := (h2.2.1 e2).1
    have sn2 := sn1.lx h2.1
    have z2 : G2.1 69 15 = F.1 69 15 := (h2.2.1 e2).2.trans (xn.2.1 15 (by decide) (by decide) (by decide) (by decide) (by decide))
    have y2 : RSX F G2 := (RSX.of (RLX.of xn)).lx h2.1
    refine Pv.aload rfl rfl ?_
    refine Pv.getI (z := Int32.ofNat w1) rfl rfl (hw18) ?_
    refine Pv.istore (lo' := [some (.ref 69), some (.int (Int32.ofNat so)), some (.int (Int32.ofNat w1)), none]) rfl rfl ?_
    refine Pv.aload rfl rfl ?_
    refine Pv.getI (z := G2.1 69 11) rfl rfl (rfl) ?_
    refine Pv.lit rfl ?_
    refine Pv.icmp rfl (fun c2 => ?_) (fun c2 => ?_)
    · skip
      replace c2 := of_decide_eq_true c2
      have k3 := (ntf_2 tn2.2.2.2.1).mp c2
      have v14 := ntf_v tn2.2.2.2.1 k3
      have v0 := (tok_nok B n lim (i + 2) k3).1
      refine Pv.aload rfl rfl ?_
      refine Pv.getI (z := G2.1 69 14) rfl rfl (rfl) ?_
      refine Pv.lit rfl ?_
      refine Pv.icmp rfl (fun c3 => ?_) (fun c3 => ?_)
      · skip
        replace c3 := of_decide_eq_true c3
        have v1 := Int32.le_iff_toInt_le.mp c3
        rw [v14] at v1
        have v1b : (tok B n lim (i + 2)).v ≤ 1 := v1
        obtain ⟨d, hd⟩ : ∃ d : Nat, (tok B n lim (i + 2)).v = (d : Int) := ⟨(tok B n lim (i + 2)).v.toNat, by omega⟩
        have d1 : d ≤ 1 := by omega
        have e14 : G2.1 69 14 = Int32.ofNat d := by have := i_ofv v14 v0; rw [this, hd]; rfl
        have hxb := sn2.tl (w := so) (k := ((2 * w1) + d)) hso (by omega)
        refine Pv.lit rfl ?_
        refine Pv.iload rfl rfl ?_
        refine Pv.bin (z := Int32.ofNat (2 * w1)) rfl (i_mul 2 w1) ?_
        refine Pv.aload rfl rfl ?_
        refine Pv.getI (z := Int32.ofNat d) rfl rfl (e14) ?_
        refine Pv.bin (z := Int32.ofNat ((2 * w1) + d)) rfl (i_add (2 * w1) d) ?_
        refine Pv.istore (lo' := [some (.ref 69), some (.int (Int32.ofNat so)), some (.int (Int32.ofNat w1)), some (.int (Int32.ofNat ((2 * w1) + d)))]) rfl rfl ?_
        refine Pv.aload rfl rfl ?_
        refine Pv.getR (v := .ref 76) rfl rfl (GW.at (a := 69) (k := 21) (b := 76) g2 (by decide)) ?_
        refine Pv.iload rfl rfl ?_
        refine Pv.ald (z := G2.1 76 so) rfl (by rw [i_toNat (by omega)]) ?_
        refine Pv.iload rfl rfl ?_
        refine Pv.callI (as := [.int (G2.1 76 so), .int (Int32.ofNat ((2 * w1) + d))]) (rest := []) (z := b2i (xbit (G2.1 76 so) ((2 * w1) + d))) rfl rfl rfl (g_bitOf) ?_
        refine Pv.if0 rfl (fun c4 => ?_) (fun c4 => ?_)
        · skip
          replace c4 := of_decide_eq_true c4
          replace c4 := b2z.mp c4
          refine Pv.aload rfl rfl ?_
          refine Pv.getR (v := .ref 76) rfl rfl (GW.at (a := 69) (k := 21) (b := 76) g2 (by decide)) ?_
          refine Pv.iload rfl rfl ?_
          refine Pv.dup2 rfl ?_
          refine Pv.ald (z := G2.1 76 so) rfl (by rw [i_toNat (by omega)]) ?_
          refine Pv.lit rfl ?_
          refine Pv.iload rfl rfl ?_
          refine Pv.bin (z := 1 <<< ((Int32.ofNat ((2 * w1) + d)) &&& 31)) rfl (rfl) ?_
          refine Pv.bin (z := (G2.1 76 so) ||| (1 <<< ((Int32.ofNat ((2 * w1) + d)) &&& 31))) rfl (rfl) ?_
          refine Pv.astk (k := so) (z := (G2.1 76 so) ||| (1 <<< ((Int32.ofNat ((2 * w1) + d)) &&& 31))) rfl (i_toNat (by omega)) (rfl) ?_
          refine Pv.aload rfl rfl ?_
          refine Pv.callV (as := [.ref 69]) (rest := []) rfl rfl rfl (r_next (GW.fx g2 ((FX.rf (P := fun q => q = 76)).fp rfl)) (tn2.oth (a := 76) (Or.inr (Or.inl rfl)))) ?_
          rintro _ G4 ⟨rfl, xn4, tn4⟩
          have g4 := RNX.G xn4 (GW.fx g2 ((FX.rf (P := fun q => q = 76)).fp rfl))
          have sn4 := (sn2.told (w := so) (k := ((2 * w1) + d)) hso (by omega)).lx (RLX.of xn4)
          have y4 : RSX F G4 := y2.p76.lx (RLX.of xn4)
          have z4 : G4.1 69 15 = F.1 69 15 := (xn4.2.1 15 (by decide) (by decide) (by decide) (by decide) (by decide)).trans ((fp_ne (Or.inl (by decide))).trans z2)
          refine (show Pv _ _ 354 [some (.ref 69), some (.int (Int32.ofNat so)), some (.int (Int32.ofNat w1)), some (.int (Int32.ofNat ((2 * w1) + d)))] [] G4 Q from ?_)
          refine Pv.aload rfl rfl ?_
          refine Pv.lit rfl ?_
          refine Pv.lit rfl ?_
          refine Pv.iload rfl rfl ?_
          refine Pv.bin (z := Int32.ofNat (12 * so)) rfl (i_mul 12 so) ?_
          refine Pv.bin (z := Int32.ofNat (4 + (12 * so))) rfl (i_add 4 (12 * so)) ?_
          refine Pv.iload rfl rfl ?_
          refine Pv.bin (z := Int32.ofNat ((4 + (12 * so)) + ((2 * w1) + d))) rfl (i_add (4 + (12 * so)) ((2 * w1) + d)) ?_
          refine Pv.lit rfl ?_
          refine Pv.iload rfl rfl ?_
          refine Pv.lit rfl ?_
          refine Pv.icmp rfl (fun c5 => ?_) (fun c5 => ?_)
          · skip
            replace c5 := (i_le (a := 2) (b := so) (by omega) (by omega)).mp (of_decide_eq_true c5)
            refine Pv.lit rfl ?_
            refine Pv.callV (as := [.ref 69, .int (Int32.ofNat ((4 + (12 * so)) + ((2 * w1) + d))), .int 0, .int 20]) (rest := []) rfl rfl rfl (r_puts (k := (4 + (12 * so)) + ((2 * w1) + d)) g4 tn4 (by omega) 0 20) ?_
            rintro _ G5 ⟨rfl, p⟩
            refine (show Pv _ _ 380 [some (.ref 69), some (.int (Int32.ofNat so)), some (.int (Int32.ofNat w1)), some (.int (Int32.ofNat ((2 * w1) + d)))] [.int (b2i (decide (tnN (tok B n lim (i + 3)) (0 : Int32).toInt (20 : Int32).toInt = 0)))] G5 Q from ?_)
            exact Pv.zret rfl (by rw [hQ]; exact LRQ.put (lo := 0) (hi := 20) (s := (s.h, s.nm, s.ld, ups s.tl (12 * so + ((2 * w1) + d)) true)) y4 z4 sn4 (by omega) p (lnAmt_p hg l1 k3 hd d1 (fun z => absurd (hxb.trans z) (by rw [c4]; decide)) (if_pos (by omega)) (by omega)))
          · skip
            replace c5 := mt (i_le (a := 2) (b := so) (by omega) (by omega)).mpr (of_decide_eq_false c5)
            refine Pv.lit rfl ?_
            refine Pv.goto rfl ?_
            refine Pv.callV (as := [.ref 69, .int (Int32.ofNat ((4 + (12 * so)) + ((2 * w1) + d))), .int 0, .int 250]) (rest := []) rfl rfl rfl (r_puts (k := (4 + (12 * so)) + ((2 * w1) + d)) g4 tn4 (by omega) 0 250) ?_
            rintro _ G5 ⟨rfl, p⟩
            refine (show Pv _ _ 380 [some (.ref 69), some (.int (Int32.ofNat so)), some (.int (Int32.ofNat w1)), some (.int (Int32.ofNat ((2 * w1) + d)))] [.int (b2i (decide (tnN (tok B n lim (i + 3)) (0 : Int32).toInt (250 : Int32).toInt = 0)))] G5 Q from ?_)
            exact Pv.zret rfl (by rw [hQ]; exact LRQ.put (lo := 0) (hi := 250) (s := (s.h, s.nm, s.ld, ups s.tl (12 * so + ((2 * w1) + d)) true)) y4 z4 sn4 (by omega) p (lnAmt_p hg l1 k3 hd d1 (fun z => absurd (hxb.trans z) (by rw [c4]; decide)) (if_neg (by omega)) (by omega)))
        · skip
          replace c4 := of_decide_eq_false c4
          replace c4 := b2n.mp c4
          refine Pv.aload rfl rfl ?_
          refine Pv.lit rfl ?_
          refine Pv.callVI (as := [.ref 69, .int 3]) (rest := []) (z := 0) rfl rfl rfl (r_bad (c := 3) g2) ?_
          exact Pv.zret rfl (by rw [hQ]; exact LRQ.rb (j := i + 2) (c := 3) (lnAmt_t hg l1 k3 hd d1 (hxb.symm.trans c4)) y2 tn2)
      · skip
        replace c3 := of_decide_eq_false c3
        refine Pv.aload rfl rfl ?_
        refine Pv.lit rfl ?_
        refine Pv.callVI (as := [.ref 69, .int 2]) (rest := []) (z := 0) rfl rfl rfl (r_bad (c := 2) g2) ?_
        have v1 := mt Int32.le_iff_toInt_le.mpr c3
        rw [v14] at v1
        have v1b : ¬ (tok B n lim (i + 2)).v ≤ 1 := v1
        exact Pv.zret rfl (by rw [hQ]; exact LRQ.rb (j := i + 2) (c := 2) (lnAmt_r hg l1 k3 (by omega)) y2 tn2)
    · skip
      replace c2 := of_decide_eq_false c2
      refine Pv.aload rfl rfl ?_
      refine Pv.lit rfl ?_
      refine Pv.callVI (as := [.ref 69, .int 1]) (rest := []) (z := 0) rfl rfl rfl (r_bad (c := 1) g2) ?_
      exact Pv.zret rfl (by rw [hQ]; exact LRQ.rb (j := i + 2) (c := 1) (lnAmt_k hg l1 (fun z => c2 ((ntf_2 tn2.2.2.2.1).mpr z))) y2 tn2)
  · skip
    replace c1 : decide (b2i (decide (lkc (sn s) 14 g (tok B n lim (i + 1)) = 0)) = 0) = true := by simpa using c1
    replace c1 := of_decide_eq_true c1
    replace c1 := b2z.mp c1
    refine Pv.lit rfl ?_
    have en := of_decide_eq_false c1
    exact Pv.zret rfl (by rw [hQ]; exact LRQ.bad (by unfold lnAmt; rw [hg]; exact lold_n (fun _ => sn_g) (by omega) en) ((RSX.of (RLX.of xn)).lx h2.1) (congrArg Int32.toInt (h2.2.2 en).1) (h2.2.2 en).2)
set_option maxRecDepth 100000 in
set_option maxHeartbeats 4000000 in
theorem r_line {F : FW} {B : Nat → Int} {n lim i : Nat} (hG : GW F) (hT : RTK F B n lim i) {s : PS} {g m : Nat} (hs : SRF F s) (hg : s.h 0 = (g : Int)) (hm : s.h 1 = (m : Int)) (hR : RWF F) {q : Nat} (hq : s.h 3 = (q : Int)) : Pm Z_X11_line [.ref 69] F (fun r F' => LRQ F F' B n lim r (lnx (tok B n lim) s i)) := by
  refine Pm.of fun N => ?_
  obtain ⟨Q, hQ⟩ : ∃ Q : Option Value → FW → Prop, Q = (fun r F' => LRQ F F' B n lim r (lnx (tok B n lim) s i)) := ⟨_, rfl⟩
  rw [← hQ]
  have bb := hs.b
  unfold PSB at bb
  have bg : g ≤ 6 := by omega
  have bm : m ≤ 8 := by omega
  refine (show Pv (ab_T (L_X11_line Z_X11_isWord Z_X11_bad Z_X11_next Z_X11_puts Z_X11_fresh Z_X11_readMisses Z_X11_takesName Z_X11_bitOf)) N 0 [some (.ref 69), none, none, none] [] F Q from ?_)
  refine Pv.aload rfl rfl ?_
  refine Pv.lit rfl ?_
  refine Pv.callVI (as := [.ref 69, .long 1819238756]) (rest := []) (z := b2i (decide ((tok B n lim i).k = 64 + ((0 : Nat) : Int)))) rfl rfl rfl (r_isWord (j := 0) hT.2.2.2.1 (tok_wok _ _ _ _) (by decide) (by decide +kernel)) ?_
  refine Pv.if0 rfl (fun c1 => ?_) (fun c1 => ?_)
  · skip
    replace c1 := of_decide_eq_true c1
    replace c1 := b2z.mp c1
    refine Pv.aload rfl rfl ?_
    refine Pv.lit rfl ?_
    refine Pv.callVI (as := [.ref 69, .long 1735356260]) (rest := []) (z := b2i (decide ((tok B n lim i).k = 64 + ((1 : Nat) : Int)))) rfl rfl rfl (r_isWord (j := 1) hT.2.2.2.1 (tok_wok _ _ _ _) (by decide) (by decide +kernel)) ?_
    refine Pv.if0 rfl (fun c2 => ?_) (fun c2 => ?_)
    · skip
      replace c2 := of_decide_eq_true c2
      replace c2 := b2z.mp c2
      refine Pv.aload rfl rfl ?_
      refine Pv.lit rfl ?_
      refine Pv.callVI (as := [.ref 69, .long 7168366]) (rest := []) (z := b2i (decide ((tok B n lim i).k = 64 + ((6 : Nat) : Int)))) rfl rfl rfl (r_isWord (j := 6) hT.2.2.2.1 (tok_wok _ _ _ _) (by decide) (by decide +kernel)) ?_
      refine Pv.if0 rfl (fun c3 => ?_) (fun c3 => ?_)
      · skip
        replace c3 := of_decide_eq_true c3
        replace c3 := b2z.mp c3
        refine Pv.aload rfl rfl ?_
        refine Pv.lit rfl ?_
        refine Pv.callVI (as := [.ref 69, .long 120299675936115]) (rest := []) (z := b2i (decide ((tok B n lim i).k = 64 + ((7 : Nat) : Int)))) rfl rfl rfl (r_isWord (j := 7) hT.2.2.2.1 (tok_wok _ _ _ _) (by decide) (by decide +kernel)) ?_
        refine Pv.if0 rfl (fun c4 => ?_) (fun c4 => ?_)
        · skip
          replace c4 := of_decide_eq_true c4
          replace c4 := b2z.mp c4
          refine Pv.aload rfl rfl ?_
          refine Pv.lit rfl ?_
          refine Pv.callVI (as := [.ref 69, .long 495874696043]) (rest := []) (z := b2i (decide ((tok B n lim i).k = 64 + ((2 : Nat) : Int)))) rfl rfl rfl (r_isWord (j := 2) hT.2.2.2.1 (tok_wok _ _ _ _) (by decide) (by decide +kernel)) ?_
          refine Pv.if0 rfl (fun c5 => ?_) (fun c5 => ?_)
          · skip
            replace c5 := of_decide_eq_true c5
            replace c5 := b2z.mp c5
            refine Pv.aload rfl rfl ?_
            refine Pv.lit rfl ?_
            refine Pv.callVI (as := [.ref 69, .long 512735736947]) (rest := []) (z := b2i (decide ((tok B n lim i).k = 64 + ((3 : Nat) : Int)))) rfl rfl rfl (r_isWord (j := 3) hT.2.2.2.1 (tok_wok _ _ _ _) (by decide) (by decide +kernel)) ?_
            refine Pv.if0 rfl (fun c6 => ?_) (fun c6 => ?_)
            · skip
              replace c6 := of_decide_eq_true c6
              replace c6 := b2z.mp c6
              refine Pv.aload rfl rfl ?_
              refine Pv.lit rfl ?_
              refine Pv.callVI (as := [.ref 69, .long 1700885619]) (rest := []) (z := b2i (decide ((tok B n lim i).k = 64 + ((4 : Nat) : Int)))) rfl rfl rfl (r_isWord (j := 4) hT.2.2.2.1 (tok_wok _ _ _ _) (by decide) (by decide +kernel)) ?_
              refine Pv.if0 rfl (fun c7 => ?_) (fun c7 => ?_)
              · skip
                replace c7 := of_decide_eq_true c7
                replace c7 := b2z.mp c7
                refine Pv.aload rfl rfl ?_
                refine Pv.lit rfl ?_
                refine Pv.callVI (as := [.ref 69, .long 469785863539]) (rest := []) (z := b2i (decide ((tok B n lim i).k = 64 + ((5 : Nat) : Int)))) rfl rfl rfl (r_isWord (j := 5) hT.2.2.2.1 (tok_wok _ _ _ _) (by decide) (by decide +kernel)) ?_
                refine Pv.if0 rfl (fun c8 => ?_) (fun c8 => ?_)
                · skip
                  replace c8 := of_decide_eq_true c8
                  replace c8 := b2z.mp c8
                  refine Pv.lit rfl ?_
                  refine Pv.istore (lo' := [some (.ref 69), some (.int (-1)), none, none]) rfl rfl ?_
                  refine Pv.iload rfl rfl ?_
                  refine Pv.if0 rfl (fun c9 => ?_) (fun c9 => ?_)
                  · skip
                    replace c9 := of_decide_eq_true c9
                    exact absurd c9 (by decide)
                  · skip
                    replace c9 := of_decide_eq_false c9
                    refine Pv.aload rfl rfl ?_
                    refine Pv.lit rfl ?_
                    refine Pv.callVI (as := [.ref 69, .int 1]) (rest := []) (z := 0) rfl rfl rfl (r_bad (c := 1) hG) ?_
                    have e7 := of_decide_eq_false c1
                    have e48 := of_decide_eq_false c2
                    have e109 := of_decide_eq_false c3
                    have e180 := of_decide_eq_false c4
                    have e195 := of_decide_eq_false c5
                    have e209 := of_decide_eq_false c6
                    have e223 := of_decide_eq_false c7
                    have e237 := of_decide_eq_false c8
                    exact Pv.zret rfl (by rw [hQ]; exact LRQ.rb (j := i) (c := 1) (lnx_n (by omega)) RSX.rf hT)
                · skip
                  replace c8 := of_decide_eq_false c8
                  replace c8 := b2n.mp c8
                  refine Pv.lit rfl ?_
                  refine Pv.goto rfl ?_
                  refine Pv.istore (lo' := [some (.ref 69), some (.int 3), none, none]) rfl rfl ?_
                  refine Pv.iload rfl rfl ?_
                  refine Pv.if0 rfl (fun c10 => ?_) (fun c10 => ?_)
                  · skip
                    replace c10 := (i_le (a := 0) (b := 3) (by omega) (by omega)).mp (of_decide_eq_true c10)
                    have ek := of_decide_eq_true c8
                    rw [hQ, lnx_a (so := 3) (by omega) (by decide)]
                    exact r_ln256 hG hT hs hg hm hR (so := 3) (by decide) _
                  · skip
                    replace c10 := mt (i_le (a := 0) (b := 3) (by omega) (by omega)).mpr (of_decide_eq_false c10)
                    omega
              · skip
                replace c7 := of_decide_eq_false c7
                replace c7 := b2n.mp c7
                refine Pv.lit rfl ?_
                refine Pv.goto rfl ?_
                refine Pv.istore (lo' := [some (.ref 69), some (.int 2), none, none]) rfl rfl ?_
                refine Pv.iload rfl rfl ?_
                refine Pv.if0 rfl (fun c11 => ?_) (fun c11 => ?_)
                · skip
                  replace c11 := (i_le (a := 0) (b := 2) (by omega) (by omega)).mp (of_decide_eq_true c11)
                  have ek := of_decide_eq_true c7
                  rw [hQ, lnx_a (so := 2) (by omega) (by decide)]
                  exact r_ln256 hG hT hs hg hm hR (so := 2) (by decide) _
                · skip
                  replace c11 := mt (i_le (a := 0) (b := 2) (by omega) (by omega)).mpr (of_decide_eq_false c11)
                  omega
            · skip
              replace c6 := of_decide_eq_false c6
              replace c6 := b2n.mp c6
              refine Pv.lit rfl ?_
              refine Pv.goto rfl ?_
              refine Pv.istore (lo' := [some (.ref 69), some (.int 1), none, none]) rfl rfl ?_
              refine Pv.iload rfl rfl ?_
              refine Pv.if0 rfl (fun c12 => ?_) (fun c12 => ?_)
              · skip
                replace c12 := (i_le (a := 0) (b := 1) (by omega) (by omega)).mp (of_decide_eq_true c12)
                have ek := of_decide_eq_true c6
                rw [hQ, lnx_a (so := 1) (by omega) (by decide)]
                exact r_ln256 hG hT hs hg hm hR (so := 1) (by decide) _
              · skip
                replace c12 := mt (i_le (a := 0) (b := 1) (by omega) (by omega)).mpr (of_decide_eq_false c12)
                omega
          · skip
            replace c5 := of_decide_eq_false c5
            replace c5 := b2n.mp c5
            refine Pv.lit rfl ?_
            refine Pv.goto rfl ?_
            refine Pv.istore (lo' := [some (.ref 69), some (.int 0), none, none]) rfl rfl ?_
            refine Pv.iload rfl rfl ?_
            refine Pv.if0 rfl (fun c13 => ?_) (fun c13 => ?_)
            · skip
              replace c13 := (i_le (a := 0) (b := 0) (by omega) (by omega)).mp (of_decide_eq_true c13)
              have ek := of_decide_eq_true c5
              rw [hQ, lnx_a (so := 0) (by omega) (by decide)]
              exact r_ln256 hG hT hs hg hm hR (so := 0) (by decide) _
            · skip
              replace c13 := mt (i_le (a := 0) (b := 0) (by omega) (by omega)).mpr (of_decide_eq_false c13)
              omega
        · skip
          replace c4 := of_decide_eq_false c4
          replace c4 := b2n.mp c4
          have ek := of_decide_eq_true c4
          refine Pv.aload rfl rfl ?_
          refine Pv.callV (as := [.ref 69]) (rest := []) rfl rfl rfl (r_misses hG hT hs hg hm hR hq) ?_
          rintro r0 G hr
          obtain ⟨z, rfl⟩ : ∃ z, r0 = some (.int z) := LRQ.i hr
          refine (show Pv _ _ 187 [some (.ref 69), none, none, none] [.int z] G Q from ?_)
          exact Pv.zret rfl (by rw [hQ]; exact by rw [lnx_s (by omega)]; exact hr)
      · skip
        replace c3 := of_decide_eq_false c3
        replace c3 := b2n.mp c3
        have ek := of_decide_eq_true c3
        rw [hQ, lnx_m (by omega)]
        exact r_ln112 hG hT hs hg hm hR _
    · skip
      replace c2 := of_decide_eq_false c2
      replace c2 := b2n.mp c2
      have ek := of_decide_eq_true c2
      rw [hQ, lnx_g (by omega)]
      exact r_ln51 hG hT hs hg hm hR _
  · skip
    replace c1 := of_decide_eq_false c1
    replace c1 := b2n.mp c1
    have ek := of_decide_eq_true c1
    rw [hQ, lnx_l (by omega)]
    exact r_ln10 hG hT hs hg hm hR _
