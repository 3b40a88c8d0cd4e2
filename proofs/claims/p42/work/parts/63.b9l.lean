set_option maxRecDepth 100000 in
set_option maxHeartbeats 4000000 in
theorem c_rline {F : FW} {K : Nat → TT} {mz i r : Nat} {s : PS} {g m q : Nat} (hG : GW F) (hT : TKF F K mz) (h4 : F.1 3 4 = Int32.ofNat (i + 1)) (hi : i < mz) (h0 : (K i).k ≠ 0) (hr : 40 ≤ r) (hs : SCF F r s) (hg : s.h 0 = (g : Int)) (hm : s.h 1 = (m : Int)) (hq : s.h 3 = (q : Int)) (hcu : CURF F (K i)) : Pm Z_X7_readLine [.ref r, .ref 3] F (fun r' F' => LCQ F F' K mz r r' (lnx K s i)) := by
  refine Pm.of fun N => ?_
  obtain ⟨Q, hQ⟩ : ∃ Q : Option Value → FW → Prop, Q = (fun r' F' => LCQ F F' K mz r r' (lnx K s i)) := ⟨_, rfl⟩
  rw [← hQ]
  have bb := hs.b
  unfold PSB at bb
  have bg : g ≤ 6 := by omega
  have bm : m ≤ 8 := by omega
  have bq : q ≤ 20 := by omega
  have hk := hcu.1
  refine (show Pv (ab_T (L_X7_readLine Z_X7_readAmount Z_X7_readLoad Z_X7_readGood Z_X7_readMan Z_X7_readMisses Z_X9_fail)) N 0 [some (.ref r), some (.ref 3)] [] F Q from ?_)
  refine Pv.aload rfl rfl ?_
  refine Pv.getI (z := F.1 3 5) rfl rfl (rfl) ?_
  refine Pv.lit rfl ?_
  refine Pv.icmp rfl (fun c1 => ?_) (fun c1 => ?_)
  · skip
    replace c1 := of_decide_eq_true c1
    have z66 : (66 : Int32).toInt = 66 := rfl
    have z69 : (69 : Int32).toInt = 69 := rfl
    have kb := Int32.lt_iff_toInt_lt.mp c1
    rw [hk] at kb
    rcases (show (K i).k = 64 ∨ (K i).k = 65 ∨ (K i).k = 70 ∨ (K i).k = 71 ∨ ((K i).k < 64 ∨ 71 < (K i).k) by omega) with ek | ek | ek | ek | ek
    · skip
      have ku := hT.up hi (by omega) (by omega)
      refine Pv.aload rfl rfl ?_
      refine Pv.getI (z := F.1 3 5) rfl rfl (rfl) ?_
      refine Pv.tab (t := 80) rfl (by rw [hk.trans ek]; rfl) ?_
      refine Pv.aload rfl rfl ?_
      refine Pv.aload rfl rfl ?_
      refine Pv.callV (as := [.ref r, .ref 3]) (rest := []) rfl rfl rfl (c_rload hG hT h4 ku hr hs hg hm hq hcu) ?_
      rintro r0 G hl
      obtain ⟨z, rfl⟩ : ∃ z, r0 = some (.int z) := LCQ.i hl
      refine (show Pv _ _ 85 [some (.ref r), some (.ref 3)] [.int z] G Q from ?_)
      exact Pv.zret rfl (by rw [hQ]; exact by rw [lnx_l ek]; exact hl)
    · skip
      have ku := hT.up hi (by omega) (by omega)
      refine Pv.aload rfl rfl ?_
      refine Pv.getI (z := F.1 3 5) rfl rfl (rfl) ?_
      refine Pv.tab (t := 86) rfl (by rw [hk.trans ek]; rfl) ?_
      refine Pv.aload rfl rfl ?_
      refine Pv.aload rfl rfl ?_
      refine Pv.callV (as := [.ref r, .ref 3]) (rest := []) rfl rfl rfl (c_rgood hG hT h4 ku hr hs hg hm hq hcu) ?_
      rintro r0 G hl
      obtain ⟨z, rfl⟩ : ∃ z, r0 = some (.int z) := LCQ.i hl
      refine (show Pv _ _ 91 [some (.ref r), some (.ref 3)] [.int z] G Q from ?_)
      exact Pv.zret rfl (by rw [hQ]; exact by rw [lnx_g ek]; exact hl)
    · skip
      have ku := hT.up hi (by omega) (by omega)
      refine Pv.aload rfl rfl ?_
      refine Pv.getI (z := F.1 3 5) rfl rfl (rfl) ?_
      refine Pv.tab (t := 92) rfl (by rw [hk.trans ek]; rfl) ?_
      refine Pv.aload rfl rfl ?_
      refine Pv.aload rfl rfl ?_
      refine Pv.callV (as := [.ref r, .ref 3]) (rest := []) rfl rfl rfl (c_rman hG hT h4 ku hr hs hg hm hq hcu) ?_
      rintro r0 G hl
      obtain ⟨z, rfl⟩ : ∃ z, r0 = some (.int z) := LCQ.i hl
      refine (show Pv _ _ 97 [some (.ref r), some (.ref 3)] [.int z] G Q from ?_)
      exact Pv.zret rfl (by rw [hQ]; exact by rw [lnx_m ek]; exact hl)
    · skip
      have ku := hT.up hi (by omega) (by omega)
      refine Pv.aload rfl rfl ?_
      refine Pv.getI (z := F.1 3 5) rfl rfl (rfl) ?_
      refine Pv.tab (t := 98) rfl (by rw [hk.trans ek]; rfl) ?_
      refine Pv.aload rfl rfl ?_
      refine Pv.aload rfl rfl ?_
      refine Pv.callV (as := [.ref r, .ref 3]) (rest := []) rfl rfl rfl (c_rmiss hG hT h4 ku hr hs hg hm hq hcu) ?_
      rintro r0 G hl
      obtain ⟨z, rfl⟩ : ∃ z, r0 = some (.int z) := LCQ.i hl
      refine (show Pv _ _ 103 [some (.ref r), some (.ref 3)] [.int z] G Q from ?_)
      exact Pv.zret rfl (by rw [hQ]; exact by rw [lnx_s ek]; exact hl)
    · skip
      refine Pv.aload rfl rfl ?_
      refine Pv.getI (z := F.1 3 5) rfl rfl (rfl) ?_
      refine Pv.tab (t := 104) rfl (tab8 (by rw [hk]; exact ek)) ?_
      refine Pv.aload rfl rfl ?_
      refine Pv.lit rfl ?_
      refine Pv.callVI (as := [.ref 3, .int 1]) (rest := []) (z := 0) rfl rfl rfl (c_fail (c := 1)) ?_
      exact Pv.zret rfl (by rw [hQ]; exact LCQ.fl (c := 1) (j := i) (lnx_n ek) CSX.rf hcu)
  · skip
    replace c1 := of_decide_eq_false c1
    refine Pv.aload rfl rfl ?_
    refine Pv.getI (z := F.1 3 5) rfl rfl (rfl) ?_
    refine Pv.lit rfl ?_
    refine Pv.icmp rfl (fun c2 => ?_) (fun c2 => ?_)
    · skip
      replace c2 := of_decide_eq_true c2
      have z66 : (66 : Int32).toInt = 66 := rfl
      have z69 : (69 : Int32).toInt = 69 := rfl
      have kb := Int32.lt_iff_toInt_lt.mp c2
      rw [hk] at kb
      rcases (show (K i).k = 64 ∨ (K i).k = 65 ∨ (K i).k = 70 ∨ (K i).k = 71 ∨ ((K i).k < 64 ∨ 71 < (K i).k) by omega) with ek | ek | ek | ek | ek
      · skip
        have ku := hT.up hi (by omega) (by omega)
        refine Pv.aload rfl rfl ?_
        refine Pv.getI (z := F.1 3 5) rfl rfl (rfl) ?_
        refine Pv.tab (t := 80) rfl (by rw [hk.trans ek]; rfl) ?_
        refine Pv.aload rfl rfl ?_
        refine Pv.aload rfl rfl ?_
        refine Pv.callV (as := [.ref r, .ref 3]) (rest := []) rfl rfl rfl (c_rload hG hT h4 ku hr hs hg hm hq hcu) ?_
        rintro r0 G hl
        obtain ⟨z, rfl⟩ : ∃ z, r0 = some (.int z) := LCQ.i hl
        refine (show Pv _ _ 85 [some (.ref r), some (.ref 3)] [.int z] G Q from ?_)
        exact Pv.zret rfl (by rw [hQ]; exact by rw [lnx_l ek]; exact hl)
      · skip
        have ku := hT.up hi (by omega) (by omega)
        refine Pv.aload rfl rfl ?_
        refine Pv.getI (z := F.1 3 5) rfl rfl (rfl) ?_
        refine Pv.tab (t := 86) rfl (by rw [hk.trans ek]; rfl) ?_
        refine Pv.aload rfl rfl ?_
        refine Pv.aload rfl rfl ?_
        refine Pv.callV (as := [.ref r, .ref 3]) (rest := []) rfl rfl rfl (c_rgood hG hT h4 ku hr hs hg hm hq hcu) ?_
        rintro r0 G hl
        obtain ⟨z, rfl⟩ : ∃ z, r0 = some (.int z) := LCQ.i hl
        refine (show Pv _ _ 91 [some (.ref r), some (.ref 3)] [.int z] G Q from ?_)
        exact Pv.zret rfl (by rw [hQ]; exact by rw [lnx_g ek]; exact hl)
      · skip
        have ku := hT.up hi (by omega) (by omega)
        refine Pv.aload rfl rfl ?_
        refine Pv.getI (z := F.1 3 5) rfl rfl (rfl) ?_
        refine Pv.tab (t := 92) rfl (by rw [hk.trans ek]; rfl) ?_
        refine Pv.aload rfl rfl ?_
        refine Pv.aload rfl rfl ?_
        refine Pv.callV (as := [.ref r, .ref 3]) (rest := []) rfl rfl rfl (c_rman hG hT h4 ku hr hs hg hm hq hcu) ?_
        rintro r0 G hl
        obtain ⟨z, rfl⟩ : ∃ z, r0 = some (.int z) := LCQ.i hl
        refine (show Pv _ _ 97 [some (.ref r), some (.ref 3)] [.int z] G Q from ?_)
        exact Pv.zret rfl (by rw [hQ]; exact by rw [lnx_m ek]; exact hl)
      · skip
        have ku := hT.up hi (by omega) (by omega)
        refine Pv.aload rfl rfl ?_
        refine Pv.getI (z := F.1 3 5) rfl rfl (rfl) ?_
        refine Pv.tab (t := 98) rfl (by rw [hk.trans ek]; rfl) ?_
        refine Pv.aload rfl rfl ?_
        refine Pv.aload rfl rfl ?_
        refine Pv.callV (as := [.ref r, .ref 3]) (rest := []) rfl rfl rfl (c_rmiss hG hT h4 ku hr hs hg hm hq hcu) ?_
        rintro r0 G hl
        obtain ⟨z, rfl⟩ : ∃ z, r0 = some (.int z) := LCQ.i hl
        refine (show Pv _ _ 103 [some (.ref r), some (.ref 3)] [.int z] G Q from ?_)
        exact Pv.zret rfl (by rw [hQ]; exact by rw [lnx_s ek]; exact hl)
      · skip
        refine Pv.aload rfl rfl ?_
        refine Pv.getI (z := F.1 3 5) rfl rfl (rfl) ?_
        refine Pv.tab (t := 104) rfl (tab8 (by rw [hk]; exact ek)) ?_
        refine Pv.aload rfl rfl ?_
        refine Pv.lit rfl ?_
        refine Pv.callVI (as := [.ref 3, .int 1]) (rest := []) (z := 0) rfl rfl rfl (c_fail (c := 1)) ?_
        exact Pv.zret rfl (by rw [hQ]; exact LCQ.fl (c := 1) (j := i) (lnx_n ek) CSX.rf hcu)
    · skip
      replace c2 := of_decide_eq_false c2
      have kb1 := mt Int32.lt_iff_toInt_lt.mpr c1
      have kb2 := mt Int32.lt_iff_toInt_lt.mpr c2
      rw [hk] at kb1 kb2
      have z66 : (66 : Int32).toInt = 66 := rfl
      have z69 : (69 : Int32).toInt = 69 := rfl
      obtain ⟨so, hso⟩ : ∃ so : Nat, (K i).k = 66 + (so : Int) := ⟨((K i).k - 66).toNat, by omega⟩
      have ku := hT.up hi (by omega) (by omega)
      refine Pv.aload rfl rfl ?_
      refine Pv.aload rfl rfl ?_
      refine Pv.aload rfl rfl ?_
      refine Pv.getI (z := F.1 3 5) rfl rfl (rfl) ?_
      refine Pv.lit rfl ?_
      refine Pv.bin (z := Int32.ofNat so) rfl (kd66 hk hso (by omega)) ?_
      refine Pv.callV (as := [.ref r, .ref 3, .int (Int32.ofNat so)]) (rest := []) rfl rfl rfl (c_ramt hG hT h4 ku hr hs hg hm hq hcu (show so < 4 by omega)) ?_
      rintro r0 G hl
      obtain ⟨z, rfl⟩ : ∃ z, r0 = some (.int z) := LCQ.i hl
      refine (show Pv _ _ 30 [some (.ref r), some (.ref 3)] [.int z] G Q from ?_)
      exact Pv.zret rfl (by rw [hQ]; exact by rw [lnx_a hso (by omega)]; exact hl)
