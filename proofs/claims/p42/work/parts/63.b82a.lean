set_option maxRecDepth 100000 in
set_option maxHeartbeats 4000000 in
theorem r_looksAt {F : FW} {B : Nat → Int} {n lim i : Nat} (hG : GW F) (hT : RTK F B n lim i) {nm : Nat → Int} {o q : Nat} (ho : o ≤ 20) (hq : q ≤ 8) (hM : ∀ g, g < q → (F.2.2.1 74 (o + g)).toInt = nm (o + g)) (hR : RWF F) : Pm Z_X11_looksAt [.ref 69, .int (Int32.ofNat o), .int (Int32.ofNat q)] F (fun r F' => r = some (.int (b2i (decide (lkc nm o q (tok B n lim i) = 0)))) ∧ RSP F F' B n lim i i (lkc nm o q (tok B n lim i)) ∧ (lkc nm o q (tok B n lim i) = 0 → F'.1 69 18 = oN (m_fst (fP nm o (tok B n lim i).v) q))) := by
  refine Pm.of fun N => ?_
  obtain ⟨Q, hQ⟩ : ∃ Q : Option Value → FW → Prop, Q = (fun r F' => r = some (.int (b2i (decide (lkc nm o q (tok B n lim i) = 0)))) ∧ RSP F F' B n lim i i (lkc nm o q (tok B n lim i)) ∧ (lkc nm o q (tok B n lim i) = 0 → F'.1 69 18 = oN (m_fst (fP nm o (tok B n lim i).v) q))) := ⟨_, rfl⟩
  rw [← hQ]
  refine (show Pv (ab_T (L_X11_looksAt Z_X11_isName Z_X11_bad Z_X11_find)) N 0 [some (.ref 69), some (.int (Int32.ofNat o)), some (.int (Int32.ofNat q))] [] F Q from ?_)
  refine Pv.aload rfl rfl ?_
  refine Pv.callVI (as := [.ref 69]) (rest := []) (z := b2i (decide ((tok B n lim i).k = 2))) rfl rfl rfl (r_isName hG hT.2.2.2.1 (tok_wok _ _ _ _) (tok_k88 _ _ _ _) hR) ?_
  refine Pv.if0 rfl (fun c1 => ?_) (fun c1 => ?_)
  · skip
    replace c1 : decide (b2i (decide ((tok B n lim i).k = 2)) = 0) = false := by simpa using c1
    replace c1 := of_decide_eq_false c1
    replace c1 := b2n.mp c1
    refine Pv.aload rfl rfl ?_
    refine Pv.aload rfl rfl ?_
    refine Pv.iload rfl rfl ?_
    refine Pv.iload rfl rfl ?_
    refine Pv.callVI (as := [.ref 69, .int (Int32.ofNat o), .int (Int32.ofNat q)]) (rest := [.ref 69]) (z := oN (m_fst (fP nm o (tok B n lim i).v) q)) rfl rfl rfl (r_find (nm := nm) (v := (tok B n lim i).v) hG ho hq hM rfl (ntf_w hT.2.2.2.1 (of_decide_eq_true c1))) ?_
    refine Pv.putI rfl rfl ?_
    refine Pv.aload rfl rfl ?_
    refine Pv.getI (z := oN (m_fst (fP nm o (tok B n lim i).v) q)) rfl rfl (fp_eq) ?_
    refine Pv.if0 rfl (fun c2 => ?_) (fun c2 => ?_)
    · skip
      replace c2 := of_decide_eq_true c2
      refine Pv.lit rfl ?_
      refine Pv.goto rfl ?_
      have ec : lkc nm o q (tok B n lim i) = 0 := lkc_ok hq (of_decide_eq_true c1) c2
      exact Pv.zret rfl (by rw [hQ]; exact ⟨by rw [ec]; rfl, by rw [ec]; exact ⟨(RLX.fp RLX.rf (Or.inr (Or.inr rfl))), fun _ => ⟨(RTK.at hT (Or.inr (Or.inr rfl))), fp_ne (Or.inr (by decide))⟩, fun e => absurd rfl e⟩, fun _ => fp_eq⟩)
    · skip
      replace c2 := of_decide_eq_false c2
      refine Pv.aload rfl rfl ?_
      refine Pv.lit rfl ?_
      refine Pv.callVI (as := [.ref 69, .int 3]) (rest := []) (z := 0) rfl rfl rfl (r_bad (c := 3) (hG.fx (P := fun _ => True) (((FX.rf (P := fun _ => True))).fp trivial))) ?_
      refine Pv.if0 rfl (fun c3 => ?_) (fun c3 => ?_)
      · skip
        replace c3 := (i_eq (a := 0) (b := 0) (by omega) (by omega)).mp (of_decide_eq_true c3)
        refine Pv.lit rfl ?_
        have ec : lkc nm o q (tok B n lim i) = 3 := lkc_3 hq (of_decide_eq_true c1) c2
        exact Pv.zret rfl (by rw [hQ]; exact ⟨by rw [ec]; rfl, by rw [ec]; exact RSP.bad (RLX.fp RLX.rf (Or.inr (Or.inr rfl))) (RTK.at hT (Or.inr (Or.inr rfl))) (by decide), fun e => absurd (ec.symm.trans e) (by decide)⟩)
      · skip
        replace c3 := mt (i_eq (a := 0) (b := 0) (by omega) (by omega)).mpr (of_decide_eq_false c3)
        omega
  · skip
    replace c1 : decide (b2i (decide ((tok B n lim i).k = 2)) = 0) = true := by simpa using c1
    replace c1 := of_decide_eq_true c1
    replace c1 := b2z.mp c1
    refine Pv.aload rfl rfl ?_
    refine Pv.lit rfl ?_
    refine Pv.callVI (as := [.ref 69, .int 1]) (rest := []) (z := 0) rfl rfl rfl (r_bad (c := 1) hG) ?_
    have ec : lkc nm o q (tok B n lim i) = 1 := lkc_1 (of_decide_eq_false c1)
    exact Pv.zret rfl (by rw [hQ]; exact ⟨by rw [ec]; rfl, by rw [ec]; exact RSP.bad RLX.rf hT (by decide), fun e => absurd (ec.symm.trans e) (by decide)⟩)
set_option maxRecDepth 100000 in
set_option maxHeartbeats 4000000 in
theorem r_takesName {F : FW} {B : Nat → Int} {n lim i : Nat} (hG : GW F) (hT : RTK F B n lim i) {nm : Nat → Int} {o q : Nat} (ho : o ≤ 20) (hq : q ≤ 8) (hM : ∀ g, g < q → (F.2.2.1 74 (o + g)).toInt = nm (o + g)) (hR : RWF F) : Pm Z_X11_takesName [.ref 69, .int (Int32.ofNat o), .int (Int32.ofNat q)] F (fun r F' => r = some (.int (b2i (decide (lkc nm o q (tok B n lim i) = 0)))) ∧ RSP F F' B n lim i (i + 1) (lkc nm o q (tok B n lim i)) ∧ (lkc nm o q (tok B n lim i) = 0 → F'.1 69 18 = oN (m_fst (fP nm o (tok B n lim i).v) q))) := by
  refine Pm.of fun N => ?_
  obtain ⟨Q, hQ⟩ : ∃ Q : Option Value → FW → Prop, Q = (fun r F' => r = some (.int (b2i (decide (lkc nm o q (tok B n lim i) = 0)))) ∧ RSP F F' B n lim i (i + 1) (lkc nm o q (tok B n lim i)) ∧ (lkc nm o q (tok B n lim i) = 0 → F'.1 69 18 = oN (m_fst (fP nm o (tok B n lim i).v) q))) := ⟨_, rfl⟩
  rw [← hQ]
  refine (show Pv (ab_T (L_X11_takesName Z_X11_looksAt Z_X11_next)) N 0 [some (.ref 69), some (.int (Int32.ofNat o)), some (.int (Int32.ofNat q))] [] F Q from ?_)
  refine Pv.aload rfl rfl ?_
  refine Pv.iload rfl rfl ?_
  refine Pv.iload rfl rfl ?_
  refine Pv.callV (as := [.ref 69, .int (Int32.ofNat o), .int (Int32.ofNat q)]) (rest := []) rfl rfl rfl (r_looksAt hG hT ho hq hM hR) ?_
  rintro _ G ⟨rfl, h1, h2⟩
  have gw := RLX.G h1.1 hG
  refine (show Pv _ _ 6 [some (.ref 69), some (.int (Int32.ofNat o)), some (.int (Int32.ofNat q))] [.int (b2i (decide (lkc nm o q (tok B n lim i) = 0)))] G Q from ?_)
  refine Pv.if0 rfl (fun c1 => ?_) (fun c1 => ?_)
  · skip
    replace c1 : decide (b2i (decide (lkc nm o q (tok B n lim i) = 0)) = 0) = false := by simpa using c1
    replace c1 := of_decide_eq_false c1
    replace c1 := b2n.mp c1
    have e0 : lkc nm o q (tok B n lim i) = 0 := of_decide_eq_true c1
    refine Pv.aload rfl rfl ?_
    refine Pv.callV (as := [.ref 69]) (rest := []) rfl rfl rfl (r_next gw (h1.2.1 e0).1) ?_
    rintro _ Gn ⟨rfl, xn, tn⟩
    have gn := RNX.G xn gw
    refine (show Pv _ _ 15 [some (.ref 69), some (.int (Int32.ofNat o)), some (.int (Int32.ofNat q))] [] Gn Q from ?_)
    refine Pv.lit rfl ?_
    exact Pv.zret rfl (by rw [hQ]; exact ⟨by rw [e0]; rfl, ⟨h1.1.tr (RLX.of xn), fun _ => ⟨tn, (xn.2.1 15 (by decide) (by decide) (by decide) (by decide) (by decide)).trans (h1.2.1 e0).2⟩, fun e => absurd e0 e⟩, fun _ => (xn.2.1 18 (by decide) (by decide) (by decide) (by decide) (by decide)).trans (h2 e0)⟩)
  · skip
    replace c1 : decide (b2i (decide (lkc nm o q (tok B n lim i) = 0)) = 0) = true := by simpa using c1
    replace c1 := of_decide_eq_true c1
    replace c1 := b2z.mp c1
    refine Pv.lit rfl ?_
    have e0 := of_decide_eq_false c1
    exact Pv.zret rfl (by rw [hQ]; exact ⟨by rw [decide_eq_false e0]; rfl, ⟨h1.1, fun e => absurd e e0, h1.2.2⟩, fun e => absurd e e0⟩)
