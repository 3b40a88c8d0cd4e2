set_option maxRecDepth 100000 in
set_option maxHeartbeats 4000000 in
theorem r_isWord {F : FW} {X : TT} {w : Int64} {j : Nat} (hN : NTF F X) (hW : WOK X) (hj : j < 25) (hw : w.toInt = rwd.getD j 0) : Pm Z_X11_isWord [.ref 69, .long w] F (fun r F' => r = some (.int (b2i (decide (X.k = 64 + (j : Int))))) ∧ F' = F) := by
  refine Pm.of fun N => ?_
  obtain ⟨Q, hQ⟩ : ∃ Q : Option Value → FW → Prop, Q = (fun r F' => r = some (.int (b2i (decide (X.k = 64 + (j : Int))))) ∧ F' = F) := ⟨_, rfl⟩
  rw [← hQ]
  refine (show Pv (ab_T L_X11_isWord) N 0 [some (.ref 69), some (.long w), none] [] F Q from ?_)
  refine Pv.aload rfl rfl ?_
  refine Pv.getI (z := F.1 69 11) rfl rfl (rfl) ?_
  refine Pv.lit rfl ?_
  refine Pv.icmp rfl (fun c1 => ?_) (fun c1 => ?_)
  · skip
    replace c1 : decide (F.1 69 11 = 1) = false := by simpa using c1
    replace c1 := of_decide_eq_false c1
    refine Pv.lit rfl ?_
    exact Pv.zret rfl (by rw [hQ]; exact ⟨b2_f (decide_eq_false (rw_n hN c1)), rfl⟩)
  · skip
    replace c1 : decide (F.1 69 11 = 1) = true := by simpa using c1
    replace c1 := of_decide_eq_true c1
    refine Pv.aload rfl rfl ?_
    refine Pv.getL (z := F.2.2.1 69 17) rfl rfl (rfl) ?_
    refine Pv.lload rfl rfl ?_
    refine Pv.lcmp (z := lg_cmp (F.2.2.1 69 17) w) rfl (rfl) ?_
    refine Pv.if0 rfl (fun c2 => ?_) (fun c2 => ?_)
    · skip
      replace c2 : decide (lg_cmp (F.2.2.1 69 17) w = 0) = false := by simpa using c2
      replace c2 := of_decide_eq_false c2
      refine Pv.lit rfl ?_
      exact Pv.zret rfl (by rw [hQ]; exact ⟨b2_f (decide_eq_false (fun e => c2 (lcmp_0.mpr ((rw_eq hN hW hj hw c1).mpr e)))), rfl⟩)
    · skip
      replace c2 : decide (lg_cmp (F.2.2.1 69 17) w = 0) = true := by simpa using c2
      replace c2 := of_decide_eq_true c2
      refine Pv.lit rfl ?_
      refine Pv.goto rfl ?_
      exact Pv.zret rfl (by rw [hQ]; exact ⟨b2_t (decide_eq_true ((rw_eq hN hW hj hw c1).mp (lcmp_0.mp c2))), rfl⟩)
set_option maxRecDepth 100000 in
set_option maxHeartbeats 4000000 in
theorem r_isSign {F : FW} {X : TT} {x : Int32} (hN : NTF F X) (hx : rkk x.toInt = 3) : Pm Z_X11_isSign [.ref 69, .int x] F (fun r F' => r = some (.int (b2i (decide (X.k = x.toInt)))) ∧ F' = F) := by
  refine Pm.of fun N => ?_
  obtain ⟨Q, hQ⟩ : ∃ Q : Option Value → FW → Prop, Q = (fun r F' => r = some (.int (b2i (decide (X.k = x.toInt)))) ∧ F' = F) := ⟨_, rfl⟩
  rw [← hQ]
  refine (show Pv (ab_T L_X11_isSign) N 0 [some (.ref 69), some (.int x)] [] F Q from ?_)
  refine Pv.aload rfl rfl ?_
  refine Pv.getI (z := F.1 69 11) rfl rfl (rfl) ?_
  refine Pv.lit rfl ?_
  refine Pv.icmp rfl (fun c1 => ?_) (fun c1 => ?_)
  · skip
    replace c1 : decide (F.1 69 11 = 3) = false := by simpa using c1
    replace c1 := of_decide_eq_false c1
    refine Pv.lit rfl ?_
    exact Pv.zret rfl (by rw [hQ]; exact ⟨b2_f (decide_eq_false (rs_n hN hx c1)), rfl⟩)
  · skip
    replace c1 : decide (F.1 69 11 = 3) = true := by simpa using c1
    replace c1 := of_decide_eq_true c1
    refine Pv.aload rfl rfl ?_
    refine Pv.getI (z := F.1 69 14) rfl rfl (rfl) ?_
    refine Pv.iload rfl rfl ?_
    refine Pv.icmp rfl (fun c2 => ?_) (fun c2 => ?_)
    · skip
      replace c2 : decide (F.1 69 14 = x) = false := by simpa using c2
      replace c2 := of_decide_eq_false c2
      refine Pv.lit rfl ?_
      exact Pv.zret rfl (by rw [hQ]; exact ⟨b2_f (decide_eq_false (fun e => c2 ((rs_eq hN c1).mpr e))), rfl⟩)
    · skip
      replace c2 : decide (F.1 69 14 = x) = true := by simpa using c2
      replace c2 := of_decide_eq_true c2
      refine Pv.lit rfl ?_
      refine Pv.goto rfl ?_
      exact Pv.zret rfl (by rw [hQ]; exact ⟨b2_t (decide_eq_true ((rs_eq hN c1).mp c2)), rfl⟩)
set_option maxRecDepth 100000 in
set_option maxHeartbeats 4000000 in
theorem r_isName {F : FW} {X : TT} (hG : GW F) (hN : NTF F X) (hW : WOK X) (h8 : X.k ≤ 88) (hR : RWF F) : Pm Z_X11_isName [.ref 69] F (fun r F' => r = some (.int (b2i (decide (X.k = 2)))) ∧ F' = F) := by
  refine Pm.of fun N => ?_
  obtain ⟨Q, hQ⟩ : ∃ Q : Option Value → FW → Prop, Q = (fun r F' => r = some (.int (b2i (decide (X.k = 2)))) ∧ F' = F) := ⟨_, rfl⟩
  rw [← hQ]
  refine (show Pv (ab_T L_X11_isName) N 0 [some (.ref 69), none, none] [] F Q from ?_)
  refine Pv.aload rfl rfl ?_
  refine Pv.getI (z := F.1 69 11) rfl rfl (rfl) ?_
  refine Pv.lit rfl ?_
  refine Pv.icmp rfl (fun c1 => ?_) (fun c1 => ?_)
  · skip
    replace c1 : decide (F.1 69 11 = 1) = false := by simpa using c1
    replace c1 := of_decide_eq_false c1
    refine Pv.lit rfl ?_
    refine Pv.istore (lo' := [some (.ref 69), some (.int 0), none]) rfl rfl ?_
    refine Pv.lit rfl ?_
    refine Pv.istore (lo' := [some (.ref 69), some (.int 0), some (.int 0)]) rfl rfl ?_
    refine Pv.lp (ι := Int32 × Nat) (lof := fun ⟨b, j⟩ => [some (.ref 69), some (.int b), some (.int (Int32.ofNat j))]) (Ff := fun ⟨b, j⟩ => F) (P := fun ⟨b, j⟩ => j ≤ 25 ∧ b = b2i (nwd X j)) ?_ (0, 0) (⟨Nat.zero_le _, by rw [show nwd X 0 = false from decide_eq_false (fun e => c1 (Int32.toInt_inj.mp (by rw [hN.2.2.1, e]; rfl)))]; rfl⟩)
    rintro N2 hN3 ⟨b, j⟩ hi4 ih5
    refine (show Pv _ _ 16 [some (.ref 69), some (.int b), some (.int (Int32.ofNat j))] [] F Q from ?_)
    obtain ⟨hj, hb⟩ := hi4
    refine Pv.iloadS rfl rfl ?_
    refine Pv.lit rfl ?_
    refine Pv.icmp rfl (fun c6 => ?_) (fun c6 => ?_)
    · skip
      replace c6 := (i_le (a := 25) (b := j) (by omega) (by omega)).mp (of_decide_eq_true c6)
      refine Pv.iload rfl rfl ?_
      exact Pv.zret rfl (by rw [hQ]; exact ⟨by rw [hb, show j = 25 by omega, nwd_e h8], rfl⟩)
    · skip
      replace c6 := mt (i_le (a := 25) (b := j) (by omega) (by omega)).mpr (of_decide_eq_false c6)
      refine Pv.iload rfl rfl ?_
      refine Pv.if0 rfl (fun c7 => ?_) (fun c7 => ?_)
      · skip
        replace c7 := of_decide_eq_true c7
        refine Pv.lit rfl ?_
        refine Pv.istore (lo' := [some (.ref 69), some (.int 0), some (.int (Int32.ofNat j))]) rfl rfl ?_
        refine Pv.iinc (y := Int32.ofNat (j + 1)) (lo' := [some (.ref 69), some (.int 0), some (.int (Int32.ofNat (j + 1)))]) rfl rfl (i_add j 1) rfl ?_
        refine Pv.goto rfl ?_
        exact ih5 (0, j + 1) (⟨by omega, by show 0 = b2i (nwd X j && _); rw [b2z.mp (hb.symm.trans c7)]; rfl⟩)
      · skip
        replace c7 := of_decide_eq_false c7
        refine Pv.aload rfl rfl ?_
        refine Pv.getL (z := F.2.2.1 69 17) rfl rfl (rfl) ?_
        refine Pv.aload rfl rfl ?_
        refine Pv.getR (v := .ref 75) rfl rfl (GW.at (a := 69) (k := 10) (b := 75) hG (by decide)) ?_
        refine Pv.iload rfl rfl ?_
        refine Pv.lald (z := F.2.2.1 75 j) rfl (by rw [i_toNat (by omega)]) ?_
        refine Pv.lcmp (z := lg_cmp (F.2.2.1 69 17) (F.2.2.1 75 j)) rfl (rfl) ?_
        refine Pv.if0 rfl (fun c8 => ?_) (fun c8 => ?_)
        · skip
          replace c8 := of_decide_eq_true c8
          refine Pv.lit rfl ?_
          refine Pv.istore (lo' := [some (.ref 69), some (.int 0), some (.int (Int32.ofNat j))]) rfl rfl ?_
          refine Pv.iinc (y := Int32.ofNat (j + 1)) (lo' := [some (.ref 69), some (.int 0), some (.int (Int32.ofNat (j + 1)))]) rfl rfl (i_add j 1) rfl ?_
          refine Pv.goto rfl ?_
          exact ih5 (0, j + 1) (⟨by omega, by show 0 = b2i (nwd X j && !decide (X.k = 64 + (j : Int))); rw [decide_eq_true ((rn_eq hN hW hR (by omega) (b2n.mp (fun e => c7 (hb.trans e)))).mp (lcmp_0.mp c8)), Bool.and_comm]; rfl⟩)
        · skip
          replace c8 := of_decide_eq_false c8
          refine Pv.lit rfl ?_
          refine Pv.goto rfl ?_
          refine Pv.istore (lo' := [some (.ref 69), some (.int 1), some (.int (Int32.ofNat j))]) rfl rfl ?_
          refine Pv.iinc (y := Int32.ofNat (j + 1)) (lo' := [some (.ref 69), some (.int 1), some (.int (Int32.ofNat (j + 1)))]) rfl rfl (i_add j 1) rfl ?_
          refine Pv.goto rfl ?_
          exact ih5 (1, j + 1) (⟨by omega, by show 1 = b2i (nwd X j && !decide (X.k = 64 + (j : Int))); rw [b2n.mp (fun e => c7 (hb.trans e)), decide_eq_false (fun e => c8 (lcmp_0.mpr ((rn_eq hN hW hR (by omega) (b2n.mp (fun e => c7 (hb.trans e)))).mpr e)))]; rfl⟩)
  · skip
    replace c1 : decide (F.1 69 11 = 1) = true := by simpa using c1
    replace c1 := of_decide_eq_true c1
    refine Pv.lit rfl ?_
    refine Pv.goto rfl ?_
    refine Pv.istore (lo' := [some (.ref 69), some (.int 1), none]) rfl rfl ?_
    refine Pv.lit rfl ?_
    refine Pv.istore (lo' := [some (.ref 69), some (.int 1), some (.int 0)]) rfl rfl ?_
    refine Pv.lp (ι := Int32 × Nat) (lof := fun ⟨b, j⟩ => [some (.ref 69), some (.int b), some (.int (Int32.ofNat j))]) (Ff := fun ⟨b, j⟩ => F) (P := fun ⟨b, j⟩ => j ≤ 25 ∧ b = b2i (nwd X j)) ?_ (1, 0) (⟨Nat.zero_le _, by rw [show nwd X 0 = true from decide_eq_true (rw_k hN c1)]; rfl⟩)
    rintro N9 hN10 ⟨b, j⟩ hi11 ih12
    refine (show Pv _ _ 16 [some (.ref 69), some (.int b), some (.int (Int32.ofNat j))] [] F Q from ?_)
    obtain ⟨hj, hb⟩ := hi11
    refine Pv.iloadS rfl rfl ?_
    refine Pv.lit rfl ?_
    refine Pv.icmp rfl (fun c13 => ?_) (fun c13 => ?_)
    · skip
      replace c13 := (i_le (a := 25) (b := j) (by omega) (by omega)).mp (of_decide_eq_true c13)
      refine Pv.iload rfl rfl ?_
      exact Pv.zret rfl (by rw [hQ]; exact ⟨by rw [hb, show j = 25 by omega, nwd_e h8], rfl⟩)
    · skip
      replace c13 := mt (i_le (a := 25) (b := j) (by omega) (by omega)).mpr (of_decide_eq_false c13)
      refine Pv.iload rfl rfl ?_
      refine Pv.if0 rfl (fun c14 => ?_) (fun c14 => ?_)
      · skip
        replace c14 := of_decide_eq_true c14
        refine Pv.lit rfl ?_
        refine Pv.istore (lo' := [some (.ref 69), some (.int 0), some (.int (Int32.ofNat j))]) rfl rfl ?_
        refine Pv.iinc (y := Int32.ofNat (j + 1)) (lo' := [some (.ref 69), some (.int 0), some (.int (Int32.ofNat (j + 1)))]) rfl rfl (i_add j 1) rfl ?_
        refine Pv.goto rfl ?_
        exact ih12 (0, j + 1) (⟨by omega, by show 0 = b2i (nwd X j && _); rw [b2z.mp (hb.symm.trans c14)]; rfl⟩)
      · skip
        replace c14 := of_decide_eq_false c14
        refine Pv.aload rfl rfl ?_
        refine Pv.getL (z := F.2.2.1 69 17) rfl rfl (rfl) ?_
        refine Pv.aload rfl rfl ?_
        refine Pv.getR (v := .ref 75) rfl rfl (GW.at (a := 69) (k := 10) (b := 75) hG (by decide)) ?_
        refine Pv.iload rfl rfl ?_
        refine Pv.lald (z := F.2.2.1 75 j) rfl (by rw [i_toNat (by omega)]) ?_
        refine Pv.lcmp (z := lg_cmp (F.2.2.1 69 17) (F.2.2.1 75 j)) rfl (rfl) ?_
        refine Pv.if0 rfl (fun c15 => ?_) (fun c15 => ?_)
        · skip
          replace c15 := of_decide_eq_true c15
          refine Pv.lit rfl ?_
          refine Pv.istore (lo' := [some (.ref 69), some (.int 0), some (.int (Int32.ofNat j))]) rfl rfl ?_
          refine Pv.iinc (y := Int32.ofNat (j + 1)) (lo' := [some (.ref 69), some (.int 0), some (.int (Int32.ofNat (j + 1)))]) rfl rfl (i_add j 1) rfl ?_
          refine Pv.goto rfl ?_
          exact ih12 (0, j + 1) (⟨by omega, by show 0 = b2i (nwd X j && !decide (X.k = 64 + (j : Int))); rw [decide_eq_true ((rn_eq hN hW hR (by omega) (b2n.mp (fun e => c14 (hb.trans e)))).mp (lcmp_0.mp c15)), Bool.and_comm]; rfl⟩)
        · skip
          replace c15 := of_decide_eq_false c15
          refine Pv.lit rfl ?_
          refine Pv.goto rfl ?_
          refine Pv.istore (lo' := [some (.ref 69), some (.int 1), some (.int (Int32.ofNat j))]) rfl rfl ?_
          refine Pv.iinc (y := Int32.ofNat (j + 1)) (lo' := [some (.ref 69), some (.int 1), some (.int (Int32.ofNat (j + 1)))]) rfl rfl (i_add j 1) rfl ?_
          refine Pv.goto rfl ?_
          exact ih12 (1, j + 1) (⟨by omega, by show 1 = b2i (nwd X j && !decide (X.k = 64 + (j : Int))); rw [b2n.mp (fun e => c14 (hb.trans e)), decide_eq_false (fun e => c15 (lcmp_0.mpr ((rn_eq hN hW hR (by omega) (b2n.mp (fun e => c14 (hb.trans e)))).mpr e)))]; rfl⟩)
set_option maxRecDepth 100000 in
set_option maxHeartbeats 4000000 in
theorem r_find {F : FW} {nm : Nat → Int} {o n : Nat} {w : Int64} {v : Int} (hG : GW F) (ho : o ≤ 20) (hn : n ≤ 8) (hM : ∀ g, g < n → (F.2.2.1 74 (o + g)).toInt = nm (o + g)) (h17 : F.2.2.1 69 17 = w) (hw : w.toInt = v) : Pm Z_X11_find [.ref 69, .int (Int32.ofNat o), .int (Int32.ofNat n)] F (fun r F' => r = some (.int (oN (m_fst (fP nm o v) n))) ∧ F' = F) := by
  refine Pm.of fun N => ?_
  obtain ⟨Q, hQ⟩ : ∃ Q : Option Value → FW → Prop, Q = (fun r F' => r = some (.int (oN (m_fst (fP nm o v) n))) ∧ F' = F) := ⟨_, rfl⟩
  rw [← hQ]
  refine (show Pv (ab_T L_X11_find) N 0 [some (.ref 69), some (.int (Int32.ofNat o)), some (.int (Int32.ofNat n)), none] [] F Q from ?_)
  refine Pv.lit rfl ?_
  refine Pv.istore (lo' := [some (.ref 69), some (.int (Int32.ofNat o)), some (.int (Int32.ofNat n)), some (.int 0)]) rfl rfl ?_
  refine Pv.lp (ι := Nat) (lof := fun k => [some (.ref 69), some (.int (Int32.ofNat o)), some (.int (Int32.ofNat n)), some (.int (Int32.ofNat k))]) (Ff := fun k => F) (P := fun k => k ≤ n ∧ m_fst (fP nm o v) k = none) ?_ 0 (⟨Nat.zero_le _, rfl⟩)
  rintro N1 hN2 k hi3 ih4
  refine (show Pv _ _ 2 [some (.ref 69), some (.int (Int32.ofNat o)), some (.int (Int32.ofNat n)), some (.int (Int32.ofNat k))] [] F Q from ?_)
  obtain ⟨hk, hb⟩ := hi3
  refine Pv.iloadS rfl rfl ?_
  refine Pv.iload rfl rfl ?_
  refine Pv.icmp rfl (fun c5 => ?_) (fun c5 => ?_)
  · skip
    replace c5 := (i_le (a := n) (b := k) (by omega) (by omega)).mp (of_decide_eq_true c5)
    refine Pv.lit rfl ?_
    exact Pv.ret rfl (by rw [hQ]; exact ⟨by rw [show n = k by omega, hb]; rfl, rfl⟩)
  · skip
    replace c5 := mt (i_le (a := n) (b := k) (by omega) (by omega)).mpr (of_decide_eq_false c5)
    refine Pv.aload rfl rfl ?_
    refine Pv.getR (v := .ref 74) rfl rfl (GW.at (a := 69) (k := 9) (b := 74) hG (by decide)) ?_
    refine Pv.iload rfl rfl ?_
    refine Pv.iload rfl rfl ?_
    refine Pv.bin (z := Int32.ofNat (o + k)) rfl (i_add o k) ?_
    refine Pv.lald (z := F.2.2.1 74 (o + k)) rfl (by rw [i_toNat (by omega)]) ?_
    refine Pv.aload rfl rfl ?_
    refine Pv.getL (z := w) rfl rfl (h17) ?_
    refine Pv.lcmp (z := lg_cmp (F.2.2.1 74 (o + k)) w) rfl (rfl) ?_
    refine Pv.if0 rfl (fun c6 => ?_) (fun c6 => ?_)
    · skip
      replace c6 : decide (lg_cmp (F.2.2.1 74 (o + k)) w = 0) = false := by simpa using c6
      replace c6 := of_decide_eq_false c6
      refine Pv.iinc (y := Int32.ofNat (k + 1)) (lo' := [some (.ref 69), some (.int (Int32.ofNat o)), some (.int (Int32.ofNat n)), some (.int (Int32.ofNat (k + 1)))]) rfl rfl (i_add k 1) rfl ?_
      refine Pv.goto rfl ?_
      exact ih4 (k + 1) (⟨by omega, m_fst_n hb (decide_eq_false (fun e => c6 (lcmp_0.mpr (Int64.toInt_inj.mp (by rw [hM k (by omega), hw]; exact e)))))⟩)
    · skip
      replace c6 : decide (lg_cmp (F.2.2.1 74 (o + k)) w = 0) = true := by simpa using c6
      replace c6 := of_decide_eq_true c6
      refine Pv.iload rfl rfl ?_
      exact Pv.ret rfl (by rw [hQ]; exact ⟨by rw [m_fst_e hb (show fP nm o v k = true from decide_eq_true (by rw [← hM k (by omega), ← hw]; exact congrArg Int64.toInt (lcmp_0.mp c6))) (by omega)]; rfl, rfl⟩)
set_option maxRecDepth 100000 in
set_option maxHeartbeats 4000000 in
theorem r_bad {F : FW} {c : Int32} (hG : GW F) : Pm Z_X11_bad [.ref 69, .int c] F (fun r F' => r = some (.int 0) ∧ F' = fp (fp F 69 15 c) 69 16 (F.1 69 12)) := by
  refine Pm.of fun N => ?_
  obtain ⟨Q, hQ⟩ : ∃ Q : Option Value → FW → Prop, Q = (fun r F' => r = some (.int 0) ∧ F' = fp (fp F 69 15 c) 69 16 (F.1 69 12)) := ⟨_, rfl⟩
  rw [← hQ]
  refine (show Pv (ab_T L_X11_bad) N 0 [some (.ref 69), some (.int c)] [] F Q from ?_)
  refine Pv.aload rfl rfl ?_
  refine Pv.iload rfl rfl ?_
  refine Pv.putI rfl rfl ?_
  refine Pv.aload rfl rfl ?_
  refine Pv.aload rfl rfl ?_
  refine Pv.getI (z := F.1 69 12) rfl rfl (fp_ne (Or.inr (by decide))) ?_
  refine Pv.putI rfl rfl ?_
  refine Pv.lit rfl ?_
  exact Pv.zret rfl (by rw [hQ]; exact ⟨rfl, rfl⟩)
