set_option maxRecDepth 100000 in
set_option maxHeartbeats 4000000 in
theorem r_sign {F : FW} {B : Nat → Int} {n lim i : Nat} (hG : GW F) (hT : RTK F B n lim i) {x : Int32} (hx : rkk x.toInt = 3) : Pm Z_X11_sign [.ref 69, .int x] F (fun r F' => r = some (.int (b2i (decide (tnS (tok B n lim i) x.toInt = 0)))) ∧ RSP F F' B n lim i (i + 1) (tnS (tok B n lim i) x.toInt)) := by
  refine Pm.of fun N => ?_
  obtain ⟨Q, hQ⟩ : ∃ Q : Option Value → FW → Prop, Q = (fun r F' => r = some (.int (b2i (decide (tnS (tok B n lim i) x.toInt = 0)))) ∧ RSP F F' B n lim i (i + 1) (tnS (tok B n lim i) x.toInt)) := ⟨_, rfl⟩
  rw [← hQ]
  refine (show Pv (ab_T (L_X11_sign Z_X11_isSign Z_X11_bad Z_X11_next)) N 0 [some (.ref 69), some (.int x)] [] F Q from ?_)
  refine Pv.aload rfl rfl ?_
  refine Pv.iload rfl rfl ?_
  refine Pv.callVI (as := [.ref 69, .int x]) (rest := []) (z := b2i (decide ((tok B n lim i).k = x.toInt))) rfl rfl rfl (r_isSign hT.2.2.2.1 hx) ?_
  refine Pv.if0 rfl (fun c1 => ?_) (fun c1 => ?_)
  · skip
    replace c1 : decide (b2i (decide ((tok B n lim i).k = x.toInt)) = 0) = false := by simpa using c1
    replace c1 := of_decide_eq_false c1
    replace c1 := b2n.mp c1
    refine Pv.aload rfl rfl ?_
    refine Pv.callV (as := [.ref 69]) (rest := []) rfl rfl rfl (r_next hG hT) ?_
    rintro _ Gn ⟨rfl, xn, tn⟩
    have gn := RNX.G xn hG
    refine (show Pv _ _ 18 [some (.ref 69), some (.int x)] [] Gn Q from ?_)
    refine Pv.lit rfl ?_
    have ec : tnS (tok B n lim i) x.toInt = 0 := if_pos (of_decide_eq_true c1)
    exact Pv.zret rfl (by rw [hQ]; exact ⟨by rw [ec]; rfl, by rw [ec]; exact ⟨(RLX.rf).tr (RLX.of xn), fun _ => ⟨tn, (xn.2.1 15 (by decide) (by decide) (by decide) (by decide) (by decide)).trans (rfl)⟩, fun e => absurd rfl e⟩⟩)
  · skip
    replace c1 : decide (b2i (decide ((tok B n lim i).k = x.toInt)) = 0) = true := by simpa using c1
    replace c1 := of_decide_eq_true c1
    replace c1 := b2z.mp c1
    refine Pv.aload rfl rfl ?_
    refine Pv.lit rfl ?_
    refine Pv.callVI (as := [.ref 69, .int 1]) (rest := []) (z := 0) rfl rfl rfl (r_bad (c := 1) hG) ?_
    have ec : tnS (tok B n lim i) x.toInt = 1 := if_neg (of_decide_eq_false c1)
    exact Pv.zret rfl (by rw [hQ]; exact ⟨by rw [ec]; rfl, by rw [ec]; exact RSP.bad RLX.rf hT (by decide)⟩)
set_option maxRecDepth 100000 in
set_option maxHeartbeats 4000000 in
theorem r_takes {F : FW} {B : Nat → Int} {n lim i : Nat} (hG : GW F) (hT : RTK F B n lim i) (lo hi : Int32) : Pm Z_X11_takes [.ref 69, .int lo, .int hi] F (fun r F' => r = some (.int (b2i (decide (tnN (tok B n lim i) lo.toInt hi.toInt = 0)))) ∧ RSP F F' B n lim i (i + 1) (tnN (tok B n lim i) lo.toInt hi.toInt) ∧ (tnN (tok B n lim i) lo.toInt hi.toInt = 0 → (F'.1 69 18).toInt = (tok B n lim i).v)) := by
  refine Pm.of fun N => ?_
  obtain ⟨Q, hQ⟩ : ∃ Q : Option Value → FW → Prop, Q = (fun r F' => r = some (.int (b2i (decide (tnN (tok B n lim i) lo.toInt hi.toInt = 0)))) ∧ RSP F F' B n lim i (i + 1) (tnN (tok B n lim i) lo.toInt hi.toInt) ∧ (tnN (tok B n lim i) lo.toInt hi.toInt = 0 → (F'.1 69 18).toInt = (tok B n lim i).v)) := ⟨_, rfl⟩
  rw [← hQ]
  refine (show Pv (ab_T (L_X11_takes Z_X11_bad Z_X11_isIn Z_X11_next)) N 0 [some (.ref 69), some (.int lo), some (.int hi)] [] F Q from ?_)
  refine Pv.aload rfl rfl ?_
  refine Pv.getI (z := F.1 69 11) rfl rfl (rfl) ?_
  refine Pv.lit rfl ?_
  refine Pv.icmp rfl (fun c1 => ?_) (fun c1 => ?_)
  · skip
    replace c1 := of_decide_eq_true c1
    refine Pv.aload rfl rfl ?_
    refine Pv.getI (z := F.1 69 14) rfl rfl (rfl) ?_
    refine Pv.iload rfl rfl ?_
    refine Pv.iload rfl rfl ?_
    refine Pv.callI (as := [.int (F.1 69 14), .int lo, .int hi]) (rest := []) (z := b2i (decide (lo ≤ (F.1 69 14)) && decide ((F.1 69 14) ≤ hi))) rfl rfl rfl (q_isIn (F.1 69 14) lo hi) ?_
    refine Pv.if0 rfl (fun c2 => ?_) (fun c2 => ?_)
    · skip
      replace c2 : decide (b2i (decide (lo ≤ (F.1 69 14)) && decide ((F.1 69 14) ≤ hi)) = 0) = false := by simpa using c2
      replace c2 := of_decide_eq_false c2
      replace c2 := b2n.mp c2
      refine Pv.aload rfl rfl ?_
      refine Pv.aload rfl rfl ?_
      refine Pv.getI (z := F.1 69 14) rfl rfl (rfl) ?_
      refine Pv.putI rfl rfl ?_
      refine Pv.aload rfl rfl ?_
      refine Pv.callV (as := [.ref 69]) (rest := []) rfl rfl rfl (r_next (hG.fx (P := fun _ => True) (((FX.rf (P := fun _ => True))).fp trivial)) (RTK.at hT (Or.inr (Or.inr rfl)))) ?_
      rintro _ Gn ⟨rfl, xn, tn⟩
      have gn := RNX.G xn (hG.fx (P := fun _ => True) (((FX.rf (P := fun _ => True))).fp trivial))
      refine (show Pv _ _ 44 [some (.ref 69), some (.int lo), some (.int hi)] [] Gn Q from ?_)
      refine Pv.lit rfl ?_
      have ec : tnN (tok B n lim i) lo.toInt hi.toInt = 0 := by have k3 := (ntf_2 hT.2.2.2.1).mp c1; have q3 := ntf_v hT.2.2.2.1 k3; have z := c2; rw [Bool.and_eq_true, decide_eq_true_eq, decide_eq_true_eq, Int32.le_iff_toInt_le, Int32.le_iff_toInt_le, q3] at z; unfold tnN; rw [if_pos k3]; exact if_neg (by omega)
      exact Pv.zret rfl (by rw [hQ]; exact ⟨by rw [ec]; rfl, by rw [ec]; exact ⟨((RLX.fp RLX.rf (Or.inr (Or.inr rfl)))).tr (RLX.of xn), fun _ => ⟨tn, (xn.2.1 15 (by decide) (by decide) (by decide) (by decide) (by decide)).trans (fp_ne (Or.inr (by decide)))⟩, fun e => absurd rfl e⟩, fun _ => (congrArg Int32.toInt ((xn.2.1 18 (by decide) (by decide) (by decide) (by decide) (by decide)).trans (fp_eq))).trans (ntf_v hT.2.2.2.1 ((ntf_2 hT.2.2.2.1).mp c1))⟩)
    · skip
      replace c2 : decide (b2i (decide (lo ≤ (F.1 69 14)) && decide ((F.1 69 14) ≤ hi)) = 0) = true := by simpa using c2
      replace c2 := of_decide_eq_true c2
      replace c2 := b2z.mp c2
      refine Pv.aload rfl rfl ?_
      refine Pv.lit rfl ?_
      refine Pv.callVI (as := [.ref 69, .int 2]) (rest := []) (z := 0) rfl rfl rfl (r_bad (c := 2) hG) ?_
      have ec : tnN (tok B n lim i) lo.toInt hi.toInt = 2 := by have k3 := (ntf_2 hT.2.2.2.1).mp c1; have q3 := ntf_v hT.2.2.2.1 k3; have z := c2; rw [Bool.and_eq_false_iff, decide_eq_false_iff_not, decide_eq_false_iff_not, Int32.le_iff_toInt_le, Int32.le_iff_toInt_le, q3] at z; unfold tnN; rw [if_pos k3]; exact if_pos (by omega)
      exact Pv.zret rfl (by rw [hQ]; exact ⟨by rw [ec]; rfl, by rw [ec]; exact RSP.bad RLX.rf hT (by decide), fun e => absurd (ec.symm.trans e) (by decide)⟩)
  · skip
    replace c1 := of_decide_eq_false c1
    refine Pv.aload rfl rfl ?_
    refine Pv.lit rfl ?_
    refine Pv.callVI (as := [.ref 69, .int 1]) (rest := []) (z := 0) rfl rfl rfl (r_bad (c := 1) hG) ?_
    have ec : tnN (tok B n lim i) lo.toInt hi.toInt = 1 := if_neg (fun e => c1 ((ntf_2 hT.2.2.2.1).mpr e))
    exact Pv.zret rfl (by rw [hQ]; exact ⟨by rw [ec]; rfl, by rw [ec]; exact RSP.bad RLX.rf hT (by decide), fun e => absurd (ec.symm.trans e) (by decide)⟩)
