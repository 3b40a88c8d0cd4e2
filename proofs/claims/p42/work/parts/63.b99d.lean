set_option maxRecDepth 100000 in
set_option maxHeartbeats 4000000 in
theorem r_ln10 {F : FW} {B : Nat → Int} {n lim i : Nat} (hG : GW F) (hT : RTK F B n lim i) {s : PS} {g m : Nat} (hs : SRF F s) (hg : s.h 0 = (g : Int)) (hm : s.h 1 = (m : Int)) (hR : RWF F) (N : Nat) : Pv (ab_T (L_X11_line Z_X11_isWord Z_X11_bad Z_X11_next Z_X11_puts Z_X11_fresh Z_X11_readMisses Z_X11_takesName Z_X11_bitOf)) N 10 [some (.ref 69), none, none, none] [] F (fun r F' => LRQ F F' B n lim r (lnLoad (tok B n lim) s i)) := by
  obtain ⟨Q, hQ⟩ : ∃ Q : Option Value → FW → Prop, Q = (fun r F' => LRQ F F' B n lim r (lnLoad (tok B n lim) s i)) := ⟨_, rfl⟩
  rw [← hQ]
  have bb := hs.b
  unfold PSB at bb
  have bg : g ≤ 6 := by omega
  have bm : m ≤ 8 := by omega
  refine (show Pv (ab_T (L_X11_line Z_X11_isWord Z_X11_bad Z_X11_next Z_X11_puts Z_X11_fresh Z_X11_readMisses Z_X11_takesName Z_X11_bitOf)) N 10 [some (.ref 69), none, none, none] [] F Q from ?_)
  refine Pv.aload rfl rfl ?_
  refine Pv.getI (z := (if s.ld = true then 1 else 0)) rfl rfl (hs.ld) ?_
  refine Pv.if0 rfl (fun c1 => ?_) (fun c1 => ?_)
  · skip
    replace c1 := of_decide_eq_true c1
    refine Pv.aload rfl rfl ?_
    refine Pv.lit rfl ?_
    refine Pv.putI rfl rfl ?_
    refine Pv.aload rfl rfl ?_
    refine Pv.callV (as := [.ref 69]) (rest := []) rfl rfl rfl (r_next (GW.fx hG ((FX.rf (P := fun q => q = 69)).fp rfl)) (hT.oth (a := 69) (k := 20) (v := 1) (Or.inr (Or.inr ⟨rfl, Or.inl rfl⟩)))) ?_
    rintro _ Gn ⟨rfl, xn, tn⟩
    have gn := RNX.G xn (GW.fx hG ((FX.rf (P := fun q => q = 69)).fp rfl))
    refine (show Pv _ _ 32 [some (.ref 69), none, none, none] [] Gn Q from ?_)
    refine Pv.aload rfl rfl ?_
    refine Pv.lit rfl ?_
    refine Pv.lit rfl ?_
    refine Pv.lit rfl ?_
    refine Pv.callV (as := [.ref 69, .int 2, .int 1, .int 40]) (rest := []) rfl rfl rfl (r_puts (k := 2) gn tn (by decide) 1 40) ?_
    rintro _ G ⟨rfl, p⟩
    refine (show Pv _ _ 40 [some (.ref 69), none, none, none] [.int (b2i (decide (tnN (tok B n lim (i + 1)) (1 : Int32).toInt (40 : Int32).toInt = 0)))] G Q from ?_)
    have l1 : ¬ s.ld = true := ld_0.mp c1
    exact Pv.zret rfl (by rw [hQ]; exact LRQ.put (s := (s.h, s.nm, true, s.tl)) ((RSX.rf.p20).lx (RLX.of xn)) ((xn.2.1 15 (by decide) (by decide) (by decide) (by decide) (by decide)).trans (fp_ne (Or.inr (by decide)))) (hs.ld1.lx (RLX.of xn)) (by decide) p (by unfold lnLoad; rw [if_neg l1]; rfl))
  · skip
    replace c1 := of_decide_eq_false c1
    refine Pv.aload rfl rfl ?_
    refine Pv.lit rfl ?_
    refine Pv.callVI (as := [.ref 69, .int 3]) (rest := []) (z := 0) rfl rfl rfl (r_bad (c := 3) hG) ?_
    have l1 : s.ld = true := Classical.byContradiction fun z => c1 (ld_0.mpr z)
    exact Pv.zret rfl (by rw [hQ]; exact LRQ.rb (j := i) (c := 3) (by unfold lnLoad; rw [if_pos l1]; rfl) RSX.rf hT)
set_option maxRecDepth 100000 in
set_option maxHeartbeats 4000000 in
theorem r_ln51 {F : FW} {B : Nat → Int} {n lim i : Nat} (hG : GW F) (hT : RTK F B n lim i) {s : PS} {g m : Nat} (hs : SRF F s) (hg : s.h 0 = (g : Int)) (hm : s.h 1 = (m : Int)) (hR : RWF F) (N : Nat) : Pv (ab_T (L_X11_line Z_X11_isWord Z_X11_bad Z_X11_next Z_X11_puts Z_X11_fresh Z_X11_readMisses Z_X11_takesName Z_X11_bitOf)) N 51 [some (.ref 69), none, none, none] [] F (fun r F' => LRQ F F' B n lim r (lnGood (tok B n lim) s i)) := by
  obtain ⟨Q, hQ⟩ : ∃ Q : Option Value → FW → Prop, Q = (fun r F' => LRQ F F' B n lim r (lnGood (tok B n lim) s i)) := ⟨_, rfl⟩
  rw [← hQ]
  have bb := hs.b
  unfold PSB at bb
  have bg : g ≤ 6 := by omega
  have bm : m ≤ 8 := by omega
  refine (show Pv (ab_T (L_X11_line Z_X11_isWord Z_X11_bad Z_X11_next Z_X11_puts Z_X11_fresh Z_X11_readMisses Z_X11_takesName Z_X11_bitOf)) N 51 [some (.ref 69), none, none, none] [] F Q from ?_)
  refine Pv.aload rfl rfl ?_
  refine Pv.getR (v := .ref 72) rfl rfl (GW.at (a := 69) (k := 7) (b := 72) hG (by decide)) ?_
  refine Pv.lit rfl ?_
  refine Pv.ald (z := Int32.ofNat g) rfl (hs.at (by decide) hg) ?_
  refine Pv.lit rfl ?_
  refine Pv.icmp rfl (fun c1 => ?_) (fun c1 => ?_)
  · skip
    replace c1 : decide (Int32.ofNat g = 6) = false := by simpa using c1
    replace c1 := mt (i_eq (a := g) (b := 6) (by omega) (by omega)).mpr (of_decide_eq_false c1)
    refine Pv.aload rfl rfl ?_
    refine Pv.callV (as := [.ref 69]) (rest := []) rfl rfl rfl (r_next hG hT) ?_
    rintro _ Gn ⟨rfl, xn, tn⟩
    have gn := RNX.G xn hG
    have sn1 := hs.lx (RLX.of xn)
    refine (show Pv _ _ 72 [some (.ref 69), none, none, none] [] Gn Q from ?_)
    refine Pv.aload rfl rfl ?_
    refine Pv.lit rfl ?_
    refine Pv.aload rfl rfl ?_
    refine Pv.getR (v := .ref 72) rfl rfl (GW.at (a := 69) (k := 7) (b := 72) gn (by decide)) ?_
    refine Pv.lit rfl ?_
    refine Pv.ald (z := Int32.ofNat g) rfl ((xn.1.1 72 0 (by decide)).trans (hs.at (by decide) hg)) ?_
    refine Pv.bin (z := Int32.ofNat (14 + g)) rfl (i_add 14 g) ?_
    refine Pv.callV (as := [.ref 69, .int (Int32.ofNat (14 + g))]) (rest := []) rfl rfl rfl (r_fresh (a := 14 + g) gn tn sn1 hg hm ((RLX.of xn).RW hR) (by omega)) ?_
    rintro _ G2 ⟨rfl, fy, fn⟩
    have g2 : GW G2 := fresh_gw gn fy fn
    refine (show Pv _ _ 85 [some (.ref 69), none, none, none] [.int (b2i (decide (fsc s (tok B n lim (i + 1)) = 0)))] G2 Q from ?_)
    refine Pv.if0 rfl (fun c2 => ?_) (fun c2 => ?_)
    · skip
      replace c2 : decide (b2i (decide (fsc s (tok B n lim (i + 1)) = 0)) = 0) = false := by simpa using c2
      replace c2 := of_decide_eq_false c2
      replace c2 := b2n.mp c2
      have ez := of_decide_eq_true c2
      obtain ⟨wn, hwn, x2, t2, z2⟩ := fy ez
      have sn2 := (sn1.fl (a := 14 + g) (w := wn) hg hm (Or.inl ⟨rfl, by omega⟩)).lx x2
      have hnm : (G2.2.2.1 74 (14 + g)).toInt = (tok B n lim (i + 1)).v := (congrArg Int64.toInt ((x2.1.2.1 74 _ (by decide)).trans fpl_eq)).trans hwn
      have y2 : RSX F G2 := ((RSX.of (RLX.of xn)).l74 (by omega)).lx x2
      have z15 : G2.1 69 15 = F.1 69 15 := z2.trans (xn.2.1 15 (by decide) (by decide) (by decide) (by decide) (by decide))
      refine Pv.aload rfl rfl ?_
      refine Pv.getR (v := .ref 72) rfl rfl (GW.at (a := 69) (k := 7) (b := 72) g2 (by decide)) ?_
      refine Pv.lit rfl ?_
      refine Pv.dup2 rfl ?_
      refine Pv.ald (z := Int32.ofNat g) rfl (sn2.at (by decide) hg) ?_
      refine Pv.lit rfl ?_
      refine Pv.bin (z := Int32.ofNat (g + 1)) rfl (i_add g 1) ?_
      refine Pv.astk (k := 0) (z := Int32.ofNat (g + 1)) rfl (rfl) (rfl) ?_
      refine Pv.lit rfl ?_
      exact Pv.zret rfl (by rw [hQ]; exact LRQ.ok (by unfold lnGood; rw [if_neg (by omega)]; exact lnew_y ez) y2.p72 (t2.oth (Or.inl rfl)) ((fp_ne (Or.inl (by decide))).trans z15) (sn2.good hg (by omega) hnm))
    · skip
      replace c2 : decide (b2i (decide (fsc s (tok B n lim (i + 1)) = 0)) = 0) = true := by simpa using c2
      replace c2 := of_decide_eq_true c2
      replace c2 := b2z.mp c2
      refine Pv.lit rfl ?_
      have en := of_decide_eq_false c2
      exact Pv.zret rfl (by rw [hQ]; exact LRQ.bad (by unfold lnGood; rw [if_neg (by omega)]; exact lnew_n en) ((RSX.of (RLX.of xn)).lx (fn en).1) (congrArg Int32.toInt (fn en).2.1) (fn en).2.2)
  · skip
    replace c1 : decide (Int32.ofNat g = 6) = true := by simpa using c1
    replace c1 := (i_eq (a := g) (b := 6) (by omega) (by omega)).mp (of_decide_eq_true c1)
    refine Pv.aload rfl rfl ?_
    refine Pv.lit rfl ?_
    refine Pv.callVI (as := [.ref 69, .int 4]) (rest := []) (z := 0) rfl rfl rfl (r_bad (c := 4) hG) ?_
    exact Pv.zret rfl (by rw [hQ]; exact LRQ.rb (j := i) (c := 4) (by unfold lnGood; rw [if_pos (by omega)]; rfl) RSX.rf hT)
set_option maxRecDepth 100000 in
set_option maxHeartbeats 4000000 in
theorem r_ln112 {F : FW} {B : Nat → Int} {n lim i : Nat} (hG : GW F) (hT : RTK F B n lim i) {s : PS} {g m : Nat} (hs : SRF F s) (hg : s.h 0 = (g : Int)) (hm : s.h 1 = (m : Int)) (hR : RWF F) (N : Nat) : Pv (ab_T (L_X11_line Z_X11_isWord Z_X11_bad Z_X11_next Z_X11_puts Z_X11_fresh Z_X11_readMisses Z_X11_takesName Z_X11_bitOf)) N 112 [some (.ref 69), none, none, none] [] F (fun r F' => LRQ F F' B n lim r (lnMan (tok B n lim) s i)) := by
  obtain ⟨Q, hQ⟩ : ∃ Q : Option Value → FW → Prop, Q = (fun r F' => LRQ F F' B n lim r (lnMan (tok B n lim) s i)) := ⟨_, rfl⟩
  rw [← hQ]
  have bb := hs.b
  unfold PSB at bb
  have bg : g ≤ 6 := by omega
  have bm : m ≤ 8 := by omega
  refine (show Pv (ab_T (L_X11_line Z_X11_isWord Z_X11_bad Z_X11_next Z_X11_puts Z_X11_fresh Z_X11_readMisses Z_X11_takesName Z_X11_bitOf)) N 112 [some (.ref 69), none, none, none] [] F Q from ?_)
  refine Pv.aload rfl rfl ?_
  refine Pv.getR (v := .ref 72) rfl rfl (GW.at (a := 69) (k := 7) (b := 72) hG (by decide)) ?_
  refine Pv.lit rfl ?_
  refine Pv.ald (z := Int32.ofNat m) rfl (hs.at (by decide) hm) ?_
  refine Pv.istore (lo' := [some (.ref 69), some (.int (Int32.ofNat m)), none, none]) rfl rfl ?_
  refine Pv.iload rfl rfl ?_
  refine Pv.lit rfl ?_
  refine Pv.icmp rfl (fun c1 => ?_) (fun c1 => ?_)
  · skip
    replace c1 : decide (Int32.ofNat m = 8) = false := by simpa using c1
    replace c1 := mt (i_eq (a := m) (b := 8) (by omega) (by omega)).mpr (of_decide_eq_false c1)
    refine Pv.aload rfl rfl ?_
    refine Pv.callV (as := [.ref 69]) (rest := []) rfl rfl rfl (r_next hG hT) ?_
    rintro _ Gn ⟨rfl, xn, tn⟩
    have gn := RNX.G xn hG
    have sn1 := hs.lx (RLX.of xn)
    refine (show Pv _ _ 135 [some (.ref 69), some (.int (Int32.ofNat m)), none, none] [] Gn Q from ?_)
    refine Pv.aload rfl rfl ?_
    refine Pv.lit rfl ?_
    refine Pv.iload rfl rfl ?_
    refine Pv.bin (z := Int32.ofNat (20 + m)) rfl (i_add 20 m) ?_
    refine Pv.callV (as := [.ref 69, .int (Int32.ofNat (20 + m))]) (rest := []) rfl rfl rfl (r_fresh (a := 20 + m) gn tn sn1 hg hm ((RLX.of xn).RW hR) (by omega)) ?_
    rintro _ G2 ⟨rfl, fy, fn⟩
    have g2 : GW G2 := fresh_gw gn fy fn
    refine (show Pv _ _ 143 [some (.ref 69), some (.int (Int32.ofNat m)), none, none] [.int (b2i (decide (fsc s (tok B n lim (i + 1)) = 0)))] G2 Q from ?_)
    refine Pv.if0 rfl (fun c2 => ?_) (fun c2 => ?_)
    · skip
      replace c2 := of_decide_eq_true c2
      replace c2 := b2z.mp c2
      refine Pv.lit rfl ?_
      have en := of_decide_eq_false c2
      exact Pv.zret rfl (by rw [hQ]; exact LRQ.bad (by unfold lnMan; rw [if_neg (by omega)]; exact lnew_n en) ((RSX.of (RLX.of xn)).lx (fn en).1) (congrArg Int32.toInt (fn en).2.1) (fn en).2.2)
    · skip
      replace c2 := of_decide_eq_false c2
      replace c2 := b2n.mp c2
      have ez := of_decide_eq_true c2
      obtain ⟨wn, hwn, x2, t2, z2⟩ := fy ez
      have sn2 := (sn1.fl (a := 20 + m) (w := wn) hg hm (Or.inr rfl)).lx x2
      have hnm : (G2.2.2.1 74 (20 + m)).toInt = (tok B n lim (i + 1)).v := (congrArg Int64.toInt ((x2.1.2.1 74 _ (by decide)).trans fpl_eq)).trans hwn
      have y2 : RSX F G2 := ((RSX.of (RLX.of xn)).l74 (by omega)).lx x2
      have z15 : G2.1 69 15 = F.1 69 15 := z2.trans (xn.2.1 15 (by decide) (by decide) (by decide) (by decide) (by decide))
      refine Pv.aload rfl rfl ?_
      refine Pv.lit rfl ?_
      refine Pv.iload rfl rfl ?_
      refine Pv.bin (z := Int32.ofNat (52 + m)) rfl (i_add 52 m) ?_
      refine Pv.lit rfl ?_
      refine Pv.lit rfl ?_
      refine Pv.callV (as := [.ref 69, .int (Int32.ofNat (52 + m)), .int 0, .int 1]) (rest := []) rfl rfl rfl (r_puts (k := 52 + m) g2 t2 (by omega) 0 1) ?_
      rintro _ G3 ⟨rfl, G4, x4, py, pn⟩
      have g3 : GW G3 := puts_gw g2 x4 py pn
      refine (show Pv _ _ 156 [some (.ref 69), some (.int (Int32.ofNat m)), none, none] [.int (b2i (decide (tnN (tok B n lim (i + 2)) (0 : Int32).toInt (1 : Int32).toInt = 0)))] G3 Q from ?_)
      refine Pv.if0 rfl (fun c3 => ?_) (fun c3 => ?_)
      · skip
        replace c3 : decide (b2i (decide (tnN (tok B n lim (i + 2)) (0 : Int32).toInt (1 : Int32).toInt = 0)) = 0) = false := by simpa using c3
        replace c3 := of_decide_eq_false c3
        replace c3 := b2n.mp c3
        have ep := of_decide_eq_true c3
        obtain ⟨t5, z5, hv5, rfl⟩ := py ep
        have sn5 := (sn2.lx x4).put (k := 52 + m) (by omega) hv5
        have hm5 : ups s.h (52 + m) (tok B n lim (i + 2)).v 1 = (m : Int) := (ups_ne (by omega)).trans hm
        have hnm5 : ((fp G4 72 (52 + m) (G4.1 69 18)).2.2.1 74 (20 + m)).toInt = (tok B n lim (i + 1)).v := (congrArg Int64.toInt (x4.1.2.1 74 _ (by decide))).trans hnm
        refine Pv.aload rfl rfl ?_
        refine Pv.getR (v := .ref 72) rfl rfl (GW.at (a := 69) (k := 7) (b := 72) g3 (by decide)) ?_
        refine Pv.lit rfl ?_
        refine Pv.dup2 rfl ?_
        refine Pv.ald (z := Int32.ofNat m) rfl (sn5.at (by decide) hm5) ?_
        refine Pv.lit rfl ?_
        refine Pv.bin (z := Int32.ofNat (m + 1)) rfl (i_add m 1) ?_
        refine Pv.astk (k := 1) (z := Int32.ofNat (m + 1)) rfl (rfl) (rfl) ?_
        refine Pv.lit rfl ?_
        exact Pv.zret rfl (by rw [hQ]; exact LRQ.ok (lnMan_y (by omega) hm ez ep) ((y2.lx x4).p72).p72 ((t5.oth (Or.inl rfl)).oth (Or.inl rfl)) ((fp_ne (Or.inl (by decide))).trans ((fp_ne (Or.inl (by decide))).trans (z5.trans z15))) (sn5.man hm5 (by omega) hnm5))
      · skip
        replace c3 : decide (b2i (decide (tnN (tok B n lim (i + 2)) (0 : Int32).toInt (1 : Int32).toInt = 0)) = 0) = true := by simpa using c3
        replace c3 := of_decide_eq_true c3
        replace c3 := b2z.mp c3
        refine Pv.lit rfl ?_
        have en := of_decide_eq_false c3
        obtain ⟨eg, q1, q2⟩ := pn en
        subst eg
        exact Pv.zret rfl (by rw [hQ]; exact LRQ.bad (by unfold lnMan; rw [if_neg (by omega), lnew_y ez]; exact lnum_n en) (y2.lx x4) (congrArg Int32.toInt q1) q2)
  · skip
    replace c1 : decide (Int32.ofNat m = 8) = true := by simpa using c1
    replace c1 := (i_eq (a := m) (b := 8) (by omega) (by omega)).mp (of_decide_eq_true c1)
    refine Pv.aload rfl rfl ?_
    refine Pv.lit rfl ?_
    refine Pv.callVI (as := [.ref 69, .int 4]) (rest := []) (z := 0) rfl rfl rfl (r_bad (c := 4) hG) ?_
    exact Pv.zret rfl (by rw [hQ]; exact LRQ.rb (j := i) (c := 4) (by unfold lnMan; rw [if_pos (by omega)]; rfl) RSX.rf hT)
