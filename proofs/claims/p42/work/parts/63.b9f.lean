set_option maxRecDepth 100000 in
set_option maxHeartbeats 4000000 in
theorem c_gn2 {F : FW} {r : Nat} {s : PS} {g m : Nat} (hs : SCF F r s) (hg : s.h 0 = (g : Int)) (hm : s.h 1 = (m : Int)) {w : Int64} {v : Int} (hw : w.toInt = c32 7 v) (hv : LW 7 v) : Pm Z_X7_goodNamed [.ref r, .long w] F (fun r F' => r = some (.int (oN (m_fst (gP s.nm v) g))) ∧ F' = F) := by
  refine Pm.of fun N => ?_
  obtain ⟨Q, hQ⟩ : ∃ Q : Option Value → FW → Prop, Q = (fun r F' => r = some (.int (oN (m_fst (gP s.nm v) g))) ∧ F' = F) := ⟨_, rfl⟩
  rw [← hQ]
  have bb := hs.b
  unfold PSB at bb
  have bg : g ≤ 6 := by omega
  have bm : m ≤ 8 := by omega
  refine (show Pv (ab_T L_X7_goodNamed) N 0 [some (.ref r), some (.long w), none, none] [] F Q from ?_)
  refine Pv.lit rfl ?_
  refine Pv.istore (lo' := [some (.ref r), some (.long w), none, some (.int 0)]) rfl rfl ?_
  refine Pv.lp (ι := Nat) (lof := fun k => [some (.ref r), some (.long w), none, some (.int (Int32.ofNat k))]) (Ff := fun k => F) (P := fun k => k ≤ g ∧ m_fst (gP s.nm v) k = none) ?_ 0 (⟨Nat.zero_le _, rfl⟩)
  rintro N1 hN2 k hi3 ih4
  refine (show Pv _ _ 2 [some (.ref r), some (.long w), none, some (.int (Int32.ofNat k))] [] F Q from ?_)
  obtain ⟨hk, hb⟩ := hi3
  refine Pv.iloadS rfl rfl ?_
  refine Pv.aload rfl rfl ?_
  refine Pv.getI (z := Int32.ofNat g) rfl rfl (hs.at0 hg) ?_
  refine Pv.icmp rfl (fun c5 => ?_) (fun c5 => ?_)
  · skip
    replace c5 := (i_le (a := g) (b := k) (by omega) (by omega)).mp (of_decide_eq_true c5)
    refine Pv.lit rfl ?_
    exact Pv.ret rfl (by rw [hQ]; exact ⟨by rw [show g = k by omega, hb]; rfl, rfl⟩)
  · skip
    replace c5 := mt (i_le (a := g) (b := k) (by omega) (by omega)).mpr (of_decide_eq_false c5)
    refine Pv.aload rfl rfl ?_
    refine Pv.getR (v := .ref (r + 1)) rfl rfl (hs.o 0 (by decide)) ?_
    refine Pv.iload rfl rfl ?_
    refine Pv.lald (z := F.2.2.1 (r + 1) k) rfl (by rw [i_toNat (by omega)]) ?_
    refine Pv.lload rfl rfl ?_
    refine Pv.lcmp (z := lg_cmp (F.2.2.1 (r + 1) k) w) rfl (rfl) ?_
    refine Pv.if0 rfl (fun c6 => ?_) (fun c6 => ?_)
    · skip
      replace c6 : decide (lg_cmp (F.2.2.1 (r + 1) k) w = 0) = false := by simpa using c6
      replace c6 := of_decide_eq_false c6
      refine Pv.iinc (y := Int32.ofNat (k + 1)) (lo' := [some (.ref r), some (.long w), none, some (.int (Int32.ofNat (k + 1)))]) rfl rfl (i_add k 1) rfl ?_
      refine Pv.goto rfl ?_
      exact ih4 (k + 1) (⟨by omega, m_fst_n hb (decide_eq_false (fun e => c6 (lcmp_0.mpr ((nm_eq (hs.gn (g := k) (by omega)) hw hv).mpr e))))⟩)
    · skip
      replace c6 : decide (lg_cmp (F.2.2.1 (r + 1) k) w = 0) = true := by simpa using c6
      replace c6 := of_decide_eq_true c6
      refine Pv.iload rfl rfl ?_
      exact Pv.ret rfl (by rw [hQ]; exact ⟨by rw [m_fst_e hb (show (gP s.nm v) k = true from decide_eq_true ((nm_eq (hs.gn (g := k) (by omega)) hw hv).mp (lcmp_0.mp c6))) (by omega)]; rfl, rfl⟩)
set_option maxRecDepth 100000 in
set_option maxHeartbeats 4000000 in
theorem c_mn2 {F : FW} {r : Nat} {s : PS} {g m : Nat} (hs : SCF F r s) (hg : s.h 0 = (g : Int)) (hm : s.h 1 = (m : Int)) {w : Int64} {v : Int} (hw : w.toInt = c32 7 v) (hv : LW 7 v) : Pm Z_X7_manNamed [.ref r, .long w] F (fun r F' => r = some (.int (oN (m_fst (mP s.nm v) m))) ∧ F' = F) := by
  refine Pm.of fun N => ?_
  obtain ⟨Q, hQ⟩ : ∃ Q : Option Value → FW → Prop, Q = (fun r F' => r = some (.int (oN (m_fst (mP s.nm v) m))) ∧ F' = F) := ⟨_, rfl⟩
  rw [← hQ]
  have bb := hs.b
  unfold PSB at bb
  have bg : g ≤ 6 := by omega
  have bm : m ≤ 8 := by omega
  refine (show Pv (ab_T L_X7_manNamed) N 0 [some (.ref r), some (.long w), none, none] [] F Q from ?_)
  refine Pv.lit rfl ?_
  refine Pv.istore (lo' := [some (.ref r), some (.long w), none, some (.int 0)]) rfl rfl ?_
  refine Pv.lp (ι := Nat) (lof := fun k => [some (.ref r), some (.long w), none, some (.int (Int32.ofNat k))]) (Ff := fun k => F) (P := fun k => k ≤ m ∧ m_fst (mP s.nm v) k = none) ?_ 0 (⟨Nat.zero_le _, rfl⟩)
  rintro N1 hN2 k hi3 ih4
  refine (show Pv _ _ 2 [some (.ref r), some (.long w), none, some (.int (Int32.ofNat k))] [] F Q from ?_)
  obtain ⟨hk, hb⟩ := hi3
  refine Pv.iloadS rfl rfl ?_
  refine Pv.aload rfl rfl ?_
  refine Pv.getI (z := Int32.ofNat m) rfl rfl (hs.at1 hm) ?_
  refine Pv.icmp rfl (fun c5 => ?_) (fun c5 => ?_)
  · skip
    replace c5 := (i_le (a := m) (b := k) (by omega) (by omega)).mp (of_decide_eq_true c5)
    refine Pv.lit rfl ?_
    exact Pv.ret rfl (by rw [hQ]; exact ⟨by rw [show m = k by omega, hb]; rfl, rfl⟩)
  · skip
    replace c5 := mt (i_le (a := m) (b := k) (by omega) (by omega)).mpr (of_decide_eq_false c5)
    refine Pv.aload rfl rfl ?_
    refine Pv.getR (v := .ref (r + 2)) rfl rfl (hs.o 1 (by decide)) ?_
    refine Pv.iload rfl rfl ?_
    refine Pv.lald (z := F.2.2.1 (r + 2) k) rfl (by rw [i_toNat (by omega)]) ?_
    refine Pv.lload rfl rfl ?_
    refine Pv.lcmp (z := lg_cmp (F.2.2.1 (r + 2) k) w) rfl (rfl) ?_
    refine Pv.if0 rfl (fun c6 => ?_) (fun c6 => ?_)
    · skip
      replace c6 : decide (lg_cmp (F.2.2.1 (r + 2) k) w = 0) = false := by simpa using c6
      replace c6 := of_decide_eq_false c6
      refine Pv.iinc (y := Int32.ofNat (k + 1)) (lo' := [some (.ref r), some (.long w), none, some (.int (Int32.ofNat (k + 1)))]) rfl rfl (i_add k 1) rfl ?_
      refine Pv.goto rfl ?_
      exact ih4 (k + 1) (⟨by omega, m_fst_n hb (decide_eq_false (fun e => c6 (lcmp_0.mpr ((nm_eq (hs.mn (g := k) (by omega)) hw hv).mpr e))))⟩)
    · skip
      replace c6 : decide (lg_cmp (F.2.2.1 (r + 2) k) w = 0) = true := by simpa using c6
      replace c6 := of_decide_eq_true c6
      refine Pv.iload rfl rfl ?_
      exact Pv.ret rfl (by rw [hQ]; exact ⟨by rw [m_fst_e hb (show (mP s.nm v) k = true from decide_eq_true ((nm_eq (hs.mn (g := k) (by omega)) hw hv).mp (lcmp_0.mp c6))) (by omega)]; rfl, rfl⟩)
set_option maxRecDepth 100000 in
set_option maxHeartbeats 4000000 in
theorem c_tnn {F : FW} {K : Nat → TT} {mz i r : Nat} {s : PS} {g m : Nat} (hG : GW F) (hT : TKF F K mz) (h4 : F.1 3 4 = Int32.ofNat i) (hi : i < mz) (hr : 40 ≤ r) (hs : SCF F r s) (hg : s.h 0 = (g : Int)) (hm : s.h 1 = (m : Int)) : Pm Z_X7_takeNewName [.ref r, .ref 3] F (fun r' F' => r' = some (.int (b2i (decide (fsc s (K i) = 0)))) ∧ RDC F F' (K i) i (fsc s (K i))) := by
  refine Pm.of fun N => ?_
  obtain ⟨Q, hQ⟩ : ∃ Q : Option Value → FW → Prop, Q = (fun r' F' => r' = some (.int (b2i (decide (fsc s (K i) = 0)))) ∧ RDC F F' (K i) i (fsc s (K i))) := ⟨_, rfl⟩
  rw [← hQ]
  have bb := hs.b
  unfold PSB at bb
  have bg : g ≤ 6 := by omega
  have bm : m ≤ 8 := by omega
  refine (show Pv (ab_T (L_X7_takeNewName Z_X9_takeName Z_X7_goodNamed Z_X7_manNamed Z_X9_fail)) N 0 [some (.ref r), some (.ref 3), none] [] F Q from ?_)
  refine Pv.aload rfl rfl ?_
  refine Pv.callV (as := [.ref 3]) (rest := []) rfl rfl rfl (c_takeName hG hT h4 hi) ?_
  rintro _ G ⟨rfl, hd⟩
  have gw := RCX.G hd.1 hG
  have sg := hs.rx hd.1 hr
  refine (show Pv _ _ 4 [some (.ref r), some (.ref 3), none] [.int (b2i (decide (tnW (K i) = 0)))] G Q from ?_)
  refine Pv.if0 rfl (fun c1 => ?_) (fun c1 => ?_)
  · skip
    replace c1 : decide (b2i (decide (tnW (K i) = 0)) = 0) = false := by simpa using c1
    replace c1 := of_decide_eq_false c1
    replace c1 := b2n.mp c1
    have h0 : tnW (K i) = 0 := (of_decide_eq_true c1)
    have k2 := tnW_k h0
    have hd0 : RDC F G (K i) i 0 := by have q := hd; rw [h0] at q; exact q
    refine Pv.aload rfl rfl ?_
    refine Pv.aload rfl rfl ?_
    refine Pv.getL (z := G.2.2.1 3 8) rfl rfl (rfl) ?_
    refine Pv.callVI (as := [.ref r, .long (G.2.2.1 3 8)]) (rest := []) (z := oN (m_fst (gP s.nm (K i).v) g)) rfl rfl rfl (c_gn2 sg hg hm (hd0.2.2.1.2.2.2 k2) ((hT.v hi).2 k2)) ?_
    refine Pv.lit rfl ?_
    refine Pv.icmp rfl (fun c2 => ?_) (fun c2 => ?_)
    · skip
      replace c2 : decide (oN (m_fst (gP s.nm (K i).v) g) = (-1)) = false := by simpa using c2
      replace c2 := of_decide_eq_false c2
      refine Pv.lit rfl ?_
      refine Pv.istore (lo' := [some (.ref r), some (.ref 3), some (.int 0)]) rfl rfl ?_
      refine Pv.iload rfl rfl ?_
      refine Pv.if0 rfl (fun c3 => ?_) (fun c3 => ?_)
      · skip
        replace c3 : decide ((0 : Int32) = 0) = false := by simpa using c3
        replace c3 := mt (i_eq (a := 0) (b := 0) (by omega) (by omega)).mpr (of_decide_eq_false c3)
        omega
      · skip
        replace c3 : decide ((0 : Int32) = 0) = true := by simpa using c3
        replace c3 := (i_eq (a := 0) (b := 0) (by omega) (by omega)).mp (of_decide_eq_true c3)
        refine Pv.aload rfl rfl ?_
        refine Pv.lit rfl ?_
        refine Pv.callVI (as := [.ref 3, .int 3]) (rest := []) (z := 0) rfl rfl rfl (c_fail (c := 3)) ?_
        refine Pv.if0 rfl (fun c4 => ?_) (fun c4 => ?_)
        · skip
          replace c4 := (i_eq (a := 0) (b := 0) (by omega) (by omega)).mp (of_decide_eq_true c4)
          refine Pv.lit rfl ?_
          have ef : fsc s (K i) = 3 := (fsc_c hg hm bg bm k2).trans (if_neg (fun z => c2 z.1))
          exact Pv.zret rfl (by rw [hQ]; exact ⟨by rw [ef]; rfl, by rw [ef]; exact hd0.bad (by decide)⟩)
        · skip
          replace c4 := mt (i_eq (a := 0) (b := 0) (by omega) (by omega)).mpr (of_decide_eq_false c4)
          omega
    · skip
      replace c2 : decide (oN (m_fst (gP s.nm (K i).v) g) = (-1)) = true := by simpa using c2
      replace c2 := of_decide_eq_true c2
      refine Pv.aload rfl rfl ?_
      refine Pv.aload rfl rfl ?_
      refine Pv.getL (z := G.2.2.1 3 8) rfl rfl (rfl) ?_
      refine Pv.callVI (as := [.ref r, .long (G.2.2.1 3 8)]) (rest := []) (z := oN (m_fst (mP s.nm (K i).v) m)) rfl rfl rfl (c_mn2 sg hg hm (hd0.2.2.1.2.2.2 k2) ((hT.v hi).2 k2)) ?_
      refine Pv.lit rfl ?_
      refine Pv.icmp rfl (fun c5 => ?_) (fun c5 => ?_)
      · skip
        replace c5 : decide (oN (m_fst (mP s.nm (K i).v) m) = (-1)) = false := by simpa using c5
        replace c5 := of_decide_eq_false c5
        refine Pv.lit rfl ?_
        refine Pv.istore (lo' := [some (.ref r), some (.ref 3), some (.int 0)]) rfl rfl ?_
        refine Pv.iload rfl rfl ?_
        refine Pv.if0 rfl (fun c6 => ?_) (fun c6 => ?_)
        · skip
          replace c6 : decide ((0 : Int32) = 0) = false := by simpa using c6
          replace c6 := mt (i_eq (a := 0) (b := 0) (by omega) (by omega)).mpr (of_decide_eq_false c6)
          omega
        · skip
          replace c6 : decide ((0 : Int32) = 0) = true := by simpa using c6
          replace c6 := (i_eq (a := 0) (b := 0) (by omega) (by omega)).mp (of_decide_eq_true c6)
          refine Pv.aload rfl rfl ?_
          refine Pv.lit rfl ?_
          refine Pv.callVI (as := [.ref 3, .int 3]) (rest := []) (z := 0) rfl rfl rfl (c_fail (c := 3)) ?_
          refine Pv.if0 rfl (fun c7 => ?_) (fun c7 => ?_)
          · skip
            replace c7 := (i_eq (a := 0) (b := 0) (by omega) (by omega)).mp (of_decide_eq_true c7)
            refine Pv.lit rfl ?_
            have ef : fsc s (K i) = 3 := (fsc_c hg hm bg bm k2).trans (if_neg (fun z => c5 z.2))
            exact Pv.zret rfl (by rw [hQ]; exact ⟨by rw [ef]; rfl, by rw [ef]; exact hd0.bad (by decide)⟩)
          · skip
            replace c7 := mt (i_eq (a := 0) (b := 0) (by omega) (by omega)).mpr (of_decide_eq_false c7)
            omega
      · skip
        replace c5 : decide (oN (m_fst (mP s.nm (K i).v) m) = (-1)) = true := by simpa using c5
        replace c5 := of_decide_eq_true c5
        refine Pv.lit rfl ?_
        refine Pv.goto rfl ?_
        refine Pv.istore (lo' := [some (.ref r), some (.ref 3), some (.int 1)]) rfl rfl ?_
        refine Pv.iload rfl rfl ?_
        refine Pv.if0 rfl (fun c8 => ?_) (fun c8 => ?_)
        · skip
          replace c8 : decide ((1 : Int32) = 0) = false := by simpa using c8
          replace c8 := mt (i_eq (a := 1) (b := 0) (by omega) (by omega)).mpr (of_decide_eq_false c8)
          refine Pv.lit rfl ?_
          refine Pv.goto rfl ?_
          have ef : fsc s (K i) = 0 := (fsc_c hg hm bg bm k2).trans (if_pos ⟨c2, c5⟩)
          exact Pv.zret rfl (by rw [hQ]; exact ⟨by rw [ef]; rfl, by rw [ef]; exact hd0⟩)
        · skip
          replace c8 : decide ((1 : Int32) = 0) = true := by simpa using c8
          replace c8 := (i_eq (a := 1) (b := 0) (by omega) (by omega)).mp (of_decide_eq_true c8)
          omega
  · skip
    replace c1 : decide (b2i (decide (tnW (K i) = 0)) = 0) = true := by simpa using c1
    replace c1 := of_decide_eq_true c1
    replace c1 := b2z.mp c1
    refine Pv.lit rfl ?_
    have h1 := tnW_1 (of_decide_eq_false c1)
    have ef : fsc s (K i) = 1 := fsc_1 h1.2
    exact Pv.zret rfl (by rw [hQ]; exact ⟨by rw [ef]; rfl, by rw [ef]; have q := hd; rw [h1.1] at q; exact q⟩)
set_option maxRecDepth 100000 in
set_option maxHeartbeats 4000000 in
theorem c_tkm {F : FW} {K : Nat → TT} {mz i r : Nat} {s : PS} {g m : Nat} (hG : GW F) (hT : TKF F K mz) (h4 : F.1 3 4 = Int32.ofNat i) (hi : i < mz) (hr : 40 ≤ r) (hs : SCF F r s) (hg : s.h 0 = (g : Int)) (hm : s.h 1 = (m : Int)) : Pm Z_X7_takeMan [.ref r, .ref 3] F (fun r' F' => r' = some (.int (tmz s.nm 6 m (K i))) ∧ RDC F F' (K i) i (lkc s.nm 6 m (K i))) := by
  refine Pm.of fun N => ?_
  obtain ⟨Q, hQ⟩ : ∃ Q : Option Value → FW → Prop, Q = (fun r' F' => r' = some (.int (tmz s.nm 6 m (K i))) ∧ RDC F F' (K i) i (lkc s.nm 6 m (K i))) := ⟨_, rfl⟩
  rw [← hQ]
  have bb := hs.b
  unfold PSB at bb
  have bg : g ≤ 6 := by omega
  have bm : m ≤ 8 := by omega
  refine (show Pv (ab_T (L_X7_takeMan Z_X9_takeName Z_X7_manNamed Z_X9_fail)) N 0 [some (.ref r), some (.ref 3), none] [] F Q from ?_)
  refine Pv.aload rfl rfl ?_
  refine Pv.callV (as := [.ref 3]) (rest := []) rfl rfl rfl (c_takeName hG hT h4 hi) ?_
  rintro _ G ⟨rfl, hd⟩
  have gw := RCX.G hd.1 hG
  have sg := hs.rx hd.1 hr
  refine (show Pv _ _ 4 [some (.ref r), some (.ref 3), none] [.int (b2i (decide (tnW (K i) = 0)))] G Q from ?_)
  refine Pv.if0 rfl (fun c1 => ?_) (fun c1 => ?_)
  · skip
    replace c1 : decide (b2i (decide (tnW (K i) = 0)) = 0) = false := by simpa using c1
    replace c1 := of_decide_eq_false c1
    replace c1 := b2n.mp c1
    have h0 : tnW (K i) = 0 := (of_decide_eq_true c1)
    have k2 := tnW_k h0
    have hd0 : RDC F G (K i) i 0 := by have q := hd; rw [h0] at q; exact q
    refine Pv.aload rfl rfl ?_
    refine Pv.aload rfl rfl ?_
    refine Pv.getL (z := G.2.2.1 3 8) rfl rfl (rfl) ?_
    refine Pv.callVI (as := [.ref r, .long (G.2.2.1 3 8)]) (rest := []) (z := oN (m_fst (mP s.nm (K i).v) m)) rfl rfl rfl (c_mn2 sg hg hm (hd0.2.2.1.2.2.2 k2) ((hT.v hi).2 k2)) ?_
    refine Pv.istore (lo' := [some (.ref r), some (.ref 3), some (.int (oN (m_fst (mP s.nm (K i).v) m)))]) rfl rfl ?_
    refine Pv.iload rfl rfl ?_
    refine Pv.lit rfl ?_
    refine Pv.icmp rfl (fun c2 => ?_) (fun c2 => ?_)
    · skip
      replace c2 : decide (oN (m_fst (mP s.nm (K i).v) m) = (-1)) = false := by simpa using c2
      replace c2 := of_decide_eq_false c2
      refine Pv.iload rfl rfl ?_
      have et : (tmz s.nm 6 m (K i)) = oN (m_fst (fP s.nm 6 (K i).v) m) := if_pos k2
      have e1 : ¬ oN (m_fst (fP s.nm 6 (K i).v) m) = -1 := c2
      have el : (lkc s.nm 6 m (K i)) = 0 := (if_pos k2).trans (if_neg e1)
      exact Pv.ret rfl (by rw [hQ]; exact ⟨by rw [et]; rw [fP_6], by rw [el]; exact hd0⟩)
    · skip
      replace c2 : decide (oN (m_fst (mP s.nm (K i).v) m) = (-1)) = true := by simpa using c2
      replace c2 := of_decide_eq_true c2
      refine Pv.aload rfl rfl ?_
      refine Pv.lit rfl ?_
      refine Pv.callVI (as := [.ref 3, .int 3]) (rest := []) (z := 0) rfl rfl rfl (c_fail (c := 3)) ?_
      refine Pv.pop rfl ?_
      refine Pv.iload rfl rfl ?_
      have et : (tmz s.nm 6 m (K i)) = oN (m_fst (fP s.nm 6 (K i).v) m) := if_pos k2
      have e1 : oN (m_fst (fP s.nm 6 (K i).v) m) = -1 := c2
      have el : (lkc s.nm 6 m (K i)) = 3 := (if_pos k2).trans (if_pos e1)
      exact Pv.ret rfl (by rw [hQ]; exact ⟨by rw [et]; rw [fP_6], by rw [el]; exact hd0.bad (by decide)⟩)
  · skip
    replace c1 : decide (b2i (decide (tnW (K i) = 0)) = 0) = true := by simpa using c1
    replace c1 := of_decide_eq_true c1
    replace c1 := b2z.mp c1
    refine Pv.lit rfl ?_
    have h1 := tnW_1 (of_decide_eq_false c1)
    have el : (lkc s.nm 6 m (K i)) = 1 := lkc_1 h1.2
    have et : (tmz s.nm 6 m (K i)) = -1 := (tmz_n bm).mpr (by rw [el]; decide)
    exact Pv.ret rfl (by rw [hQ]; exact ⟨by rw [et], by rw [el]; have q := hd; rw [h1.1] at q; exact q⟩)
set_option maxRecDepth 100000 in
set_option maxHeartbeats 4000000 in
theorem c_tkg {F : FW} {K : Nat → TT} {mz i r : Nat} {s : PS} {g m : Nat} (hG : GW F) (hT : TKF F K mz) (h4 : F.1 3 4 = Int32.ofNat i) (hi : i < mz) (hr : 40 ≤ r) (hs : SCF F r s) (hg : s.h 0 = (g : Int)) (hm : s.h 1 = (m : Int)) : Pm Z_X7_takeGood [.ref r, .ref 3] F (fun r' F' => r' = some (.int (tmz s.nm 0 g (K i))) ∧ RDC F F' (K i) i (lkc s.nm 0 g (K i))) := by
  refine Pm.of fun N => ?_
  obtain ⟨Q, hQ⟩ : ∃ Q : Option Value → FW → Prop, Q = (fun r' F' => r' = some (.int (tmz s.nm 0 g (K i))) ∧ RDC F F' (K i) i (lkc s.nm 0 g (K i))) := ⟨_, rfl⟩
  rw [← hQ]
  have bb := hs.b
  unfold PSB at bb
  have bg : g ≤ 6 := by omega
  have bm : m ≤ 8 := by omega
  refine (show Pv (ab_T (L_X7_takeGood Z_X9_takeName Z_X7_goodNamed Z_X9_fail)) N 0 [some (.ref r), some (.ref 3), none] [] F Q from ?_)
  refine Pv.aload rfl rfl ?_
  refine Pv.callV (as := [.ref 3]) (rest := []) rfl rfl rfl (c_takeName hG hT h4 hi) ?_
  rintro _ G ⟨rfl, hd⟩
  have gw := RCX.G hd.1 hG
  have sg := hs.rx hd.1 hr
  refine (show Pv _ _ 4 [some (.ref r), some (.ref 3), none] [.int (b2i (decide (tnW (K i) = 0)))] G Q from ?_)
  refine Pv.if0 rfl (fun c1 => ?_) (fun c1 => ?_)
  · skip
    replace c1 : decide (b2i (decide (tnW (K i) = 0)) = 0) = false := by simpa using c1
    replace c1 := of_decide_eq_false c1
    replace c1 := b2n.mp c1
    have h0 : tnW (K i) = 0 := (of_decide_eq_true c1)
    have k2 := tnW_k h0
    have hd0 : RDC F G (K i) i 0 := by have q := hd; rw [h0] at q; exact q
    refine Pv.aload rfl rfl ?_
    refine Pv.aload rfl rfl ?_
    refine Pv.getL (z := G.2.2.1 3 8) rfl rfl (rfl) ?_
    refine Pv.callVI (as := [.ref r, .long (G.2.2.1 3 8)]) (rest := []) (z := oN (m_fst (gP s.nm (K i).v) g)) rfl rfl rfl (c_gn2 sg hg hm (hd0.2.2.1.2.2.2 k2) ((hT.v hi).2 k2)) ?_
    refine Pv.istore (lo' := [some (.ref r), some (.ref 3), some (.int (oN (m_fst (gP s.nm (K i).v) g)))]) rfl rfl ?_
    refine Pv.iload rfl rfl ?_
    refine Pv.lit rfl ?_
    refine Pv.icmp rfl (fun c2 => ?_) (fun c2 => ?_)
    · skip
      replace c2 : decide (oN (m_fst (gP s.nm (K i).v) g) = (-1)) = false := by simpa using c2
      replace c2 := of_decide_eq_false c2
      refine Pv.iload rfl rfl ?_
      have et : (tmz s.nm 0 g (K i)) = oN (m_fst (fP s.nm 0 (K i).v) g) := if_pos k2
      have e1 : ¬ oN (m_fst (fP s.nm 0 (K i).v) g) = -1 := by rw [fP_0]; exact c2
      have el : (lkc s.nm 0 g (K i)) = 0 := (if_pos k2).trans (if_neg e1)
      exact Pv.ret rfl (by rw [hQ]; exact ⟨by rw [et]; rw [fP_0], by rw [el]; exact hd0⟩)
    · skip
      replace c2 : decide (oN (m_fst (gP s.nm (K i).v) g) = (-1)) = true := by simpa using c2
      replace c2 := of_decide_eq_true c2
      refine Pv.aload rfl rfl ?_
      refine Pv.lit rfl ?_
      refine Pv.callVI (as := [.ref 3, .int 3]) (rest := []) (z := 0) rfl rfl rfl (c_fail (c := 3)) ?_
      refine Pv.pop rfl ?_
      refine Pv.iload rfl rfl ?_
      have et : (tmz s.nm 0 g (K i)) = oN (m_fst (fP s.nm 0 (K i).v) g) := if_pos k2
      have e1 : oN (m_fst (fP s.nm 0 (K i).v) g) = -1 := by rw [fP_0]; exact c2
      have el : (lkc s.nm 0 g (K i)) = 3 := (if_pos k2).trans (if_pos e1)
      exact Pv.ret rfl (by rw [hQ]; exact ⟨by rw [et]; rw [fP_0], by rw [el]; exact hd0.bad (by decide)⟩)
  · skip
    replace c1 : decide (b2i (decide (tnW (K i) = 0)) = 0) = true := by simpa using c1
    replace c1 := of_decide_eq_true c1
    replace c1 := b2z.mp c1
    refine Pv.lit rfl ?_
    have h1 := tnW_1 (of_decide_eq_false c1)
    have el : (lkc s.nm 0 g (K i)) = 1 := lkc_1 h1.2
    have et : (tmz s.nm 0 g (K i)) = -1 := (tmz_n (by omega)).mpr (by rw [el]; decide)
    exact Pv.ret rfl (by rw [hQ]; exact ⟨by rw [et], by rw [el]; have q := hd; rw [h1.1] at q; exact q⟩)
