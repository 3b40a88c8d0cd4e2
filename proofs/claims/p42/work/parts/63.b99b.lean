set_option maxRecDepth 100000 in
set_option maxHeartbeats 4000000 in
theorem r_puts {F : FW} {B : Nat → Int} {n lim i : Nat} (hG : GW F) (hT : RTK F B n lim i) {k : Nat} (hk : k < 120) (lo hi : Int32) : Pm Z_X11_puts [.ref 69, .int (Int32.ofNat k), .int lo, .int hi] F (fun r F' => r = some (.int (b2i (decide (tnN (tok B n lim i) lo.toInt hi.toInt = 0)))) ∧ PUX F F' B n lim i k (tnN (tok B n lim i) lo.toInt hi.toInt)) := by
  refine Pm.of fun N => ?_
  obtain ⟨Q, hQ⟩ : ∃ Q : Option Value → FW → Prop, Q = (fun r F' => r = some (.int (b2i (decide (tnN (tok B n lim i) lo.toInt hi.toInt = 0)))) ∧ PUX F F' B n lim i k (tnN (tok B n lim i) lo.toInt hi.toInt)) := ⟨_, rfl⟩
  rw [← hQ]
  refine (show Pv (ab_T (L_X11_puts Z_X11_takes)) N 0 [some (.ref 69), some (.int (Int32.ofNat k)), some (.int lo), some (.int hi)] [] F Q from ?_)
  refine Pv.aload rfl rfl ?_
  refine Pv.iload rfl rfl ?_
  refine Pv.iload rfl rfl ?_
  refine Pv.callV (as := [.ref 69, .int lo, .int hi]) (rest := []) rfl rfl rfl (r_takes hG hT lo hi) ?_
  rintro _ G ⟨rfl, h1, h2⟩
  have gw := RLX.G h1.1 hG
  refine (show Pv _ _ 6 [some (.ref 69), some (.int (Int32.ofNat k)), some (.int lo), some (.int hi)] [.int (b2i (decide (tnN (tok B n lim i) lo.toInt hi.toInt = 0)))] G Q from ?_)
  refine Pv.if0 rfl (fun c1 => ?_) (fun c1 => ?_)
  · skip
    replace c1 : decide (b2i (decide (tnN (tok B n lim i) lo.toInt hi.toInt = 0)) = 0) = false := by simpa using c1
    replace c1 := of_decide_eq_false c1
    replace c1 := b2n.mp c1
    refine Pv.aload rfl rfl ?_
    refine Pv.getR (v := .ref 72) rfl rfl (GW.at (a := 69) (k := 7) (b := 72) gw (by decide)) ?_
    refine Pv.iload rfl rfl ?_
    refine Pv.aload rfl rfl ?_
    refine Pv.getI (z := G.1 69 18) rfl rfl (rfl) ?_
    refine Pv.astk (k := k) (z := G.1 69 18) rfl (i_toNat (by omega)) (rfl) ?_
    refine Pv.lit rfl ?_
    have e0 := of_decide_eq_true c1
    exact Pv.zret rfl (by rw [hQ]; exact ⟨by rw [decide_eq_true e0]; rfl, G, h1.1, fun e => ⟨(h1.2.1 e).1, (h1.2.1 e).2, h2 e, rfl⟩, fun e => absurd e0 e⟩)
  · skip
    replace c1 : decide (b2i (decide (tnN (tok B n lim i) lo.toInt hi.toInt = 0)) = 0) = true := by simpa using c1
    replace c1 := of_decide_eq_true c1
    replace c1 := b2z.mp c1
    refine Pv.lit rfl ?_
    have e0 := of_decide_eq_false c1
    exact Pv.zret rfl (by rw [hQ]; exact ⟨by rw [decide_eq_false e0]; rfl, G, h1.1, fun e => absurd e e0, fun e => ⟨rfl, (h1.2.2 e).1, (h1.2.2 e).2⟩⟩)
set_option maxRecDepth 100000 in
set_option maxHeartbeats 4000000 in
theorem r_fresh {F : FW} {B : Nat → Int} {n lim i : Nat} (hG : GW F) (hT : RTK F B n lim i) {s : PS} {g m : Nat} (hs : SRF F s) (hg : s.h 0 = (g : Int)) (hm : s.h 1 = (m : Int)) (hR : RWF F) {a : Nat} (ha : a < 28) : Pm Z_X11_fresh [.ref 69, .int (Int32.ofNat a)] F (fun r F' => r = some (.int (b2i (decide (fsc s (tok B n lim i) = 0)))) ∧ FRX F F' B n lim i a s) := by
  refine Pm.of fun N => ?_
  obtain ⟨Q, hQ⟩ : ∃ Q : Option Value → FW → Prop, Q = (fun r F' => r = some (.int (b2i (decide (fsc s (tok B n lim i) = 0)))) ∧ FRX F F' B n lim i a s) := ⟨_, rfl⟩
  rw [← hQ]
  have bb := hs.b
  unfold PSB at bb
  have bg : g ≤ 6 := by omega
  have bm : m ≤ 8 := by omega
  refine (show Pv (ab_T (L_X11_fresh Z_X11_isName Z_X11_bad Z_X11_find Z_X11_next)) N 0 [some (.ref 69), some (.int (Int32.ofNat a))] [] F Q from ?_)
  refine Pv.aload rfl rfl ?_
  refine Pv.callVI (as := [.ref 69]) (rest := []) (z := b2i (decide ((tok B n lim i).k = 2))) rfl rfl rfl (r_isName hG hT.2.2.2.1 (tok_wok _ _ _ _) (tok_k88 _ _ _ _) hR) ?_
  refine Pv.if0 rfl (fun c1 => ?_) (fun c1 => ?_)
  · skip
    replace c1 : decide (b2i (decide ((tok B n lim i).k = 2)) = 0) = false := by simpa using c1
    replace c1 := of_decide_eq_false c1
    replace c1 := b2n.mp c1
    refine Pv.aload rfl rfl ?_
    refine Pv.lit rfl ?_
    refine Pv.aload rfl rfl ?_
    refine Pv.getR (v := .ref 72) rfl rfl (GW.at (a := 69) (k := 7) (b := 72) hG (by decide)) ?_
    refine Pv.lit rfl ?_
    refine Pv.ald (z := Int32.ofNat g) rfl (hs.at (by decide) hg) ?_
    refine Pv.callVI (as := [.ref 69, .int 14, .int (Int32.ofNat g)]) (rest := []) (z := oN (m_fst (fP (sn s) 14 (tok B n lim i).v) g)) rfl rfl rfl (r_find (nm := sn s) (o := 14) (v := (tok B n lim i).v) hG (by decide) (by omega) (hs.g hg) rfl (ntf_w hT.2.2.2.1 (of_decide_eq_true c1))) ?_
    refine Pv.if0 rfl (fun c2 => ?_) (fun c2 => ?_)
    · skip
      replace c2 := of_decide_eq_true c2
      refine Pv.aload rfl rfl ?_
      refine Pv.lit rfl ?_
      refine Pv.callVI (as := [.ref 69, .int 3]) (rest := []) (z := 0) rfl rfl rfl (r_bad (c := 3) hG) ?_
      have ef := fsc_3 hg hm bg bm (of_decide_eq_true c1) (Or.inl c2)
      exact Pv.zret rfl (by rw [hQ]; exact ⟨by rw [ef]; rfl, FRX.bad hT ef (by decide)⟩)
    · skip
      replace c2 := of_decide_eq_false c2
      refine Pv.aload rfl rfl ?_
      refine Pv.lit rfl ?_
      refine Pv.aload rfl rfl ?_
      refine Pv.getR (v := .ref 72) rfl rfl (GW.at (a := 69) (k := 7) (b := 72) hG (by decide)) ?_
      refine Pv.lit rfl ?_
      refine Pv.ald (z := Int32.ofNat m) rfl (hs.at (by decide) hm) ?_
      refine Pv.callVI (as := [.ref 69, .int 20, .int (Int32.ofNat m)]) (rest := []) (z := oN (m_fst (fP (sn s) 20 (tok B n lim i).v) m)) rfl rfl rfl (r_find (nm := sn s) (o := 20) (v := (tok B n lim i).v) hG (by decide) (by omega) (hs.m hm) rfl (ntf_w hT.2.2.2.1 (of_decide_eq_true c1))) ?_
      refine Pv.if0 rfl (fun c3 => ?_) (fun c3 => ?_)
      · skip
        replace c3 := of_decide_eq_true c3
        refine Pv.aload rfl rfl ?_
        refine Pv.getR (v := .ref 74) rfl rfl (GW.at (a := 69) (k := 9) (b := 74) hG (by decide)) ?_
        refine Pv.iload rfl rfl ?_
        refine Pv.aload rfl rfl ?_
        refine Pv.getL (z := F.2.2.1 69 17) rfl rfl (rfl) ?_
        refine Pv.lastk (k := a) rfl (i_toNat (by omega)) ?_
        refine Pv.aload rfl rfl ?_
        refine Pv.callV (as := [.ref 69]) (rest := []) rfl rfl rfl (r_next (GW.fx hG ((FX.rf (P := fun q => q = 74)).fpl rfl)) hT.l74) ?_
        rintro _ Gn ⟨rfl, xn, tn⟩
        have gn := RNX.G xn (GW.fx hG ((FX.rf (P := fun q => q = 74)).fpl rfl))
        refine (show Pv _ _ 63 [some (.ref 69), some (.int (Int32.ofNat a))] [] Gn Q from ?_)
        refine Pv.lit rfl ?_
        have ef := fsc_0 hg hm bg bm (of_decide_eq_true c1) c2 c3
        exact Pv.zret rfl (by rw [hQ]; exact ⟨by rw [ef]; rfl, fun _ => ⟨_, ntf_w hT.2.2.2.1 (of_decide_eq_true c1), RLX.of xn, tn, xn.2.1 15 (by decide) (by decide) (by decide) (by decide) (by decide)⟩, fun e => absurd ef e⟩)
      · skip
        replace c3 := of_decide_eq_false c3
        refine Pv.aload rfl rfl ?_
        refine Pv.lit rfl ?_
        refine Pv.callVI (as := [.ref 69, .int 3]) (rest := []) (z := 0) rfl rfl rfl (r_bad (c := 3) hG) ?_
        have ef := fsc_3 hg hm bg bm (of_decide_eq_true c1) (Or.inr c3)
        exact Pv.zret rfl (by rw [hQ]; exact ⟨by rw [ef]; rfl, FRX.bad hT ef (by decide)⟩)
  · skip
    replace c1 : decide (b2i (decide ((tok B n lim i).k = 2)) = 0) = true := by simpa using c1
    replace c1 := of_decide_eq_true c1
    replace c1 := b2z.mp c1
    refine Pv.aload rfl rfl ?_
    refine Pv.lit rfl ?_
    refine Pv.callVI (as := [.ref 69, .int 1]) (rest := []) (z := 0) rfl rfl rfl (r_bad (c := 1) hG) ?_
    have ef := fsc_1 (s := s) (of_decide_eq_false c1)
    exact Pv.zret rfl (by rw [hQ]; exact ⟨by rw [ef]; rfl, FRX.bad hT ef (by decide)⟩)
