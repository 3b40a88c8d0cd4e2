set_option maxRecDepth 100000 in
set_option maxHeartbeats 4000000 in
theorem o_foreseeRoom {F : FW} {t : Nat} {T : St} {S : Sh} (hG : GW F) (ht : F.2.1 0 13 = .ref t) (hT : TR F t T) (hS : SHR F 12 (t_m T) S) (j0 : t = 45 ∨ t = 53) {g d : Nat} (hg : g < t_g T) (hd1 : 1 ≤ d) (hd : d ≤ 60) : Pm Z_X10_foreseeRoom [.ref 0, .int (Int32.ofNat g), .int (Int32.ofNat d)] F (fun r F' => r = some (.int (Int32.ofNat (w_dn S d))) ∧ CDR F F' ∧ AR F' 43 (w_dn S d) (w_rm T S g)) := by
  refine Pm.of fun N => ?_
  obtain ⟨Q, hQ⟩ : ∃ Q : Option Value → FW → Prop, Q = (fun r F' => r = some (.int (Int32.ofNat (w_dn S d))) ∧ CDR F F' ∧ AR F' 43 (w_dn S d) (w_rm T S g)) := ⟨_, rfl⟩
  rw [← hQ]
  have b3 := hT.mb
  have b4 := hT.nb
  have b5 := hT.gb
  have b6 := m_from_lt S
  have b7 := hS.db
  refine (show Pv (ab_T (L_X10_foreseeRoom Z_X6_copyFrom Z_X1_passDays)) N 0 [some (.ref 0), some (.int (Int32.ofNat g)), some (.int (Int32.ofNat d)), none, none] [] F Q from ?_)
  refine Pv.aload rfl rfl ?_
  refine Pv.getR (v := .ref 20) rfl rfl (GW.at (a := 0) (k := 5) (b := 20) hG (by decide)) ?_
  refine Pv.aload rfl rfl ?_
  refine Pv.getR (v := .ref 12) rfl rfl (GW.at (a := 0) (k := 4) (b := 12) hG (by decide)) ?_
  refine Pv.callV (as := [.ref 20, .ref 12]) (rest := []) rfl rfl rfl (f_shCopy (GW.o20 hG) hS b3 (by omega)) ?_
  rintro _ G1 ⟨rfl, x2, sr4⟩
  have hx3 := FX.tr (P := fun q => (7 ≤ q ∧ q ≤ 9) ∨ (20 ≤ q ∧ q ≤ 35) ∨ q = 40 ∨ q = 43) FX.rf (x2.wd (fun q (c : 20 ≤ q ∧ q ≤ 20 + 7) => (show (7 ≤ q ∧ q ≤ 9) ∨ (20 ≤ q ∧ q ≤ 35) ∨ q = 40 ∨ q = 43 by omega)))
  have hx5 := hT.fx (P := fun q => 20 ≤ q ∧ q ≤ 20 + 7) x2 (fun q h1 h2 (c : 20 ≤ q ∧ q ≤ 20 + 7) => by omega)
  have hx6 := hS.fx (P := fun q => 20 ≤ q ∧ q ≤ 20 + 7) x2 (fun q h1 h2 (c : 20 ≤ q ∧ q ≤ 20 + 7) => by omega)
  have hx7 := hG.fx (P := fun q => 20 ≤ q ∧ q ≤ 20 + 7) x2
  have hr8 : G1.2.1 0 13 = .ref t := by rw [x2.2.2.1]; exact ht
  refine (show Pv _ _ 11 [some (.ref 0), some (.int (Int32.ofNat g)), some (.int (Int32.ofNat d)), none, none] [] G1 Q from ?_)
  refine Pv.lit rfl ?_
  refine Pv.istore (lo' := [some (.ref 0), some (.int (Int32.ofNat g)), some (.int (Int32.ofNat d)), some (.int 0), none]) rfl rfl ?_
  refine Pv.lit rfl ?_
  refine Pv.istore (lo' := [some (.ref 0), some (.int (Int32.ofNat g)), some (.int (Int32.ofNat d)), some (.int 0), some (.int 0)]) rfl rfl ?_
  refine Pv.lp (ι := Nat × Nat × FW) (lof := fun ⟨k, e, G⟩ => [some (.ref 0), some (.int (Int32.ofNat g)), some (.int (Int32.ofNat d)), some (.int (Int32.ofNat e)), some (.int (Int32.ofNat k))]) (Ff := fun ⟨k, e, G⟩ => G) (P := fun ⟨k, e, G⟩ => FX (fun q => (7 ≤ q ∧ q ≤ 9) ∨ (20 ≤ q ∧ q ≤ 35) ∨ q = 40 ∨ q = 43) F G ∧ (k ≤ d ∧ e = k) ∧ (SHR G 20 (t_m T) (m_days T S k)) ∧ (h_d (m_days T S k) = h_d S + k) ∧ (AR G 43 k (w_rm T S g))) ?_ (0, 0, G1) (⟨hx3, ⟨Nat.zero_le _, rfl⟩, sr4, rfl, AR.z⟩)
  rintro N9 hN10 ⟨k, e, G⟩ hi11 ih12
  refine (show Pv _ _ 16 [some (.ref 0), some (.int (Int32.ofNat g)), some (.int (Int32.ofNat d)), some (.int (Int32.ofNat e)), some (.int (Int32.ofNat k))] [] G Q from ?_)
  obtain ⟨hxG, hke, hA, hkd, h43⟩ := hi11
  have hx13 := hT.fx (P := fun q => (7 ≤ q ∧ q ≤ 9) ∨ (20 ≤ q ∧ q ≤ 35) ∨ q = 40 ∨ q = 43) hxG (fun q h1 h2 (c : (7 ≤ q ∧ q ≤ 9) ∨ (20 ≤ q ∧ q ≤ 35) ∨ q = 40 ∨ q = 43) => by omega)
  have hx14 := hS.fx (P := fun q => (7 ≤ q ∧ q ≤ 9) ∨ (20 ≤ q ∧ q ≤ 35) ∨ q = 40 ∨ q = 43) hxG (fun q h1 h2 (c : (7 ≤ q ∧ q ≤ 9) ∨ (20 ≤ q ∧ q ≤ 35) ∨ q = 40 ∨ q = 43) => by omega)
  have hx15 := hG.fx (P := fun q => (7 ≤ q ∧ q ≤ 9) ∨ (20 ≤ q ∧ q ≤ 35) ∨ q = 40 ∨ q = 43) hxG
  have hx16 : G.2.1 0 13 = .ref t := by rw [hxG.2.2.1]; exact ht
  have bD := hA.db
  refine Pv.iloadS rfl rfl ?_
  refine Pv.iload rfl rfl ?_
  refine Pv.icmp rfl (fun c17 => ?_) (fun c17 => ?_)
  · skip
    replace c17 := (i_le (a := d) (b := k) (by omega) (by omega)).mp (of_decide_eq_true c17)
    refine Pv.iload rfl rfl ?_
    exact Pv.ret rfl (by rw [hQ]; exact ⟨congrArg (fun z => some (Value.int (Int32.ofNat z))) (show e = w_dn S d from (by unfold w_dn; split <;> omega)), hxG, h43.le (by unfold w_dn; split <;> omega)⟩)
  · skip
    replace c17 := mt (i_le (a := d) (b := k) (by omega) (by omega)).mpr (of_decide_eq_false c17)
    refine Pv.iload rfl rfl ?_
    refine Pv.lit rfl ?_
    refine Pv.icmp rfl (fun c18 => ?_) (fun c18 => ?_)
    · skip
      replace c18 := (i_le (a := 60) (b := k) (by omega) (by omega)).mp (of_decide_eq_true c18)
      refine Pv.iload rfl rfl ?_
      exact Pv.ret rfl (by rw [hQ]; exact ⟨congrArg (fun z => some (Value.int (Int32.ofNat z))) (show e = w_dn S d from (by unfold w_dn; split <;> omega)), hxG, h43.le (by unfold w_dn; split <;> omega)⟩)
    · skip
      replace c18 := mt (i_le (a := 60) (b := k) (by omega) (by omega)).mpr (of_decide_eq_false c18)
      refine Pv.aload rfl rfl ?_
      refine Pv.getR (v := .ref 20) rfl rfl (GW.at (a := 0) (k := 5) (b := 20) hx15 (by decide)) ?_
      refine Pv.getI (z := Int32.ofNat (h_d (m_days T S k))) rfl rfl (hA.d) ?_
      refine Pv.lit rfl ?_
      refine Pv.icmp rfl (fun c19 => ?_) (fun c19 => ?_)
      · skip
        replace c19 := (i_le (a := 400) (b := h_d (m_days T S k)) (by omega) (by omega)).mp (of_decide_eq_true c19)
        refine Pv.iload rfl rfl ?_
        exact Pv.ret rfl (by rw [hQ]; exact ⟨congrArg (fun z => some (Value.int (Int32.ofNat z))) (show e = w_dn S d from (by unfold w_dn; split <;> omega)), hxG, h43.le (by unfold w_dn; split <;> omega)⟩)
      · skip
        replace c19 := mt (i_le (a := 400) (b := h_d (m_days T S k)) (by omega) (by omega)).mpr (of_decide_eq_false c19)
        refine Pv.aload rfl rfl ?_
        refine Pv.getR (v := .ref 7) rfl rfl (GW.at (a := 0) (k := 2) (b := 7) hx15 (by decide)) ?_
        refine Pv.aload rfl rfl ?_
        refine Pv.getR (v := .ref t) rfl rfl (hx16) ?_
        refine Pv.aload rfl rfl ?_
        refine Pv.getR (v := .ref 20) rfl rfl (GW.at (a := 0) (k := 5) (b := 20) hx15 (by decide)) ?_
        refine Pv.lit rfl ?_
        refine Pv.callV (as := [.ref 7, .ref t, .ref 20, .int 1]) (rest := []) rfl rfl rfl (f_passDays (n := 1) hx13 hA hx15 (by omega) (by omega) (by omega) (by omega)) ?_
        rintro _ G20 ⟨rfl, x21, sr23, pl24⟩
        have hx22 := FX.tr (P := fun q => (7 ≤ q ∧ q ≤ 9) ∨ (20 ≤ q ∧ q ≤ 35) ∨ q = 40 ∨ q = 43) hxG (x21.wd (fun q (c : (20 ≤ q ∧ q ≤ 20 + 7) ∨ (7 ≤ q ∧ q ≤ 9)) => (show (7 ≤ q ∧ q ≤ 9) ∨ (20 ≤ q ∧ q ≤ 35) ∨ q = 40 ∨ q = 43 by omega)))
        have hx25 := hx13.fx (P := fun q => (20 ≤ q ∧ q ≤ 20 + 7) ∨ (7 ≤ q ∧ q ≤ 9)) x21 (fun q h1 h2 (c : (20 ≤ q ∧ q ≤ 20 + 7) ∨ (7 ≤ q ∧ q ≤ 9)) => by omega)
        have hx26 := hx14.fx (P := fun q => (20 ≤ q ∧ q ≤ 20 + 7) ∨ (7 ≤ q ∧ q ≤ 9)) x21 (fun q h1 h2 (c : (20 ≤ q ∧ q ≤ 20 + 7) ∨ (7 ≤ q ∧ q ≤ 9)) => by omega)
        have hx27 := hx15.fx (P := fun q => (20 ≤ q ∧ q ≤ 20 + 7) ∨ (7 ≤ q ∧ q ≤ 9)) x21
        have hr28 : G20.2.1 0 13 = .ref t := by rw [x21.2.2.1]; exact hx16
        refine (show Pv _ _ 58 [some (.ref 0), some (.int (Int32.ofNat g)), some (.int (Int32.ofNat d)), some (.int (Int32.ofNat e)), some (.int (Int32.ofNat k))] [.int (Int32.ofNat (h_d (m_days T (m_days T S k) 1)) - Int32.ofNat (h_d (m_days T S k)))] G20 Q from ?_)
        have hP := pl24 0 rfl (by show h_d (m_days T S k) < 400; omega)
        have hq29 : SHR G20 20 (t_m T) (m_day T (m_days T S k)) := by have q := sr23; rw [show m_days T (m_days T S k) 1 = m_day T (m_days T S k) from if_pos (by show h_d (m_days T S k) < 400; omega)] at q; exact q
        have h43b := AR.fx h43 x21 (by omega)
        refine Pv.pop rfl ?_
        refine Pv.aload rfl rfl ?_
        refine Pv.getR (v := .ref 43) rfl rfl (GW.at (a := 0) (k := 11) (b := 43) hx27 (by decide)) ?_
        refine Pv.iload rfl rfl ?_
        refine Pv.aload rfl rfl ?_
        refine Pv.getR (v := .ref 7) rfl rfl (GW.at (a := 0) (k := 2) (b := 7) hx27 (by decide)) ?_
        refine Pv.getR (v := .ref 9) rfl rfl (GW.at (a := 7) (k := 1) (b := 9) hx27 (by decide)) ?_
        refine Pv.iload rfl rfl ?_
        refine Pv.ald (z := m_room T (m_days T S k) - m_pg T (m_days T S k) g) rfl (by rw [i_toNat (by omega)]; exact hP.2.2.2 _ (by omega)) ?_
        refine Pv.astk (k := k) (z := m_room T (m_days T S k) - m_pg T (m_days T S k) g) rfl (i_toNat (by omega)) (rfl) ?_
        refine Pv.iinc (y := Int32.ofNat (e + 1)) (lo' := [some (.ref 0), some (.int (Int32.ofNat g)), some (.int (Int32.ofNat d)), some (.int (Int32.ofNat (e + 1))), some (.int (Int32.ofNat k))]) rfl rfl (i_add e 1) rfl ?_
        refine Pv.iinc (y := Int32.ofNat (k + 1)) (lo' := [some (.ref 0), some (.int (Int32.ofNat g)), some (.int (Int32.ofNat d)), some (.int (Int32.ofNat (e + 1))), some (.int (Int32.ofNat (k + 1)))]) rfl rfl (i_add k 1) rfl ?_
        refine Pv.goto rfl ?_
        exact ih12 (k + 1, e + 1, (fp G20 43 k (m_room T (m_days T S k) - m_pg T (m_days T S k) g))) (⟨(hx22).fp (show (7 ≤ 43 ∧ 43 ≤ 9) ∨ (20 ≤ 43 ∧ 43 ≤ 35) ∨ 43 = 40 ∨ 43 = 43 by omega), ⟨by omega, by omega⟩, by rw [m_days_s (by omega)]; exact hq29, by rw [m_days_s (by omega)]; show h_d (m_days T S k) + 1 = _; omega, (h43b).ext rfl⟩)
set_option maxRecDepth 100000 in
set_option maxHeartbeats 4000000 in
theorem o_roomTowards {F : FW} {t g s n : Nat} {T : St} {S : Sh} (hG : GW F) (ht : F.2.1 0 13 = .ref t) (hT : TR F t T) (hS : SHR F 12 (t_m T) S) (h43 : AR F 43 n (w_rm T S g)) (hg : g < t_g T) (hs : s < 2) (hn : n ≤ 60) : Pm Z_X10_roomTowards [.ref 0, .int (Int32.ofNat s), .int (Int32.ofNat n)] F (fun r F' => r = some (.int (w_rt T S g s n)) ∧ F' = F) := by
  refine Pm.of fun N => ?_
  obtain ⟨Q, hQ⟩ : ∃ Q : Option Value → FW → Prop, Q = (fun r F' => r = some (.int (w_rt T S g s n)) ∧ F' = F) := ⟨_, rfl⟩
  rw [← hQ]
  have b7 := hS.db
  refine (show Pv (ab_T L_X10_roomTowards) N 0 [some (.ref 0), some (.int (Int32.ofNat s)), some (.int (Int32.ofNat n)), none, none] [] F Q from ?_)
  refine Pv.lit rfl ?_
  refine Pv.istore (lo' := [some (.ref 0), some (.int (Int32.ofNat s)), some (.int (Int32.ofNat n)), some (.int 0), none]) rfl rfl ?_
  refine Pv.lit rfl ?_
  refine Pv.istore (lo' := [some (.ref 0), some (.int (Int32.ofNat s)), some (.int (Int32.ofNat n)), some (.int 0), some (.int 0)]) rfl rfl ?_
  refine Pv.lp (ι := Nat × Int32) (lof := fun ⟨k, b⟩ => [some (.ref 0), some (.int (Int32.ofNat s)), some (.int (Int32.ofNat n)), some (.int b), some (.int (Int32.ofNat k))]) (Ff := fun ⟨k, b⟩ => F) (P := fun ⟨k, b⟩ => k ≤ n ∧ b = w_rt T S g s k) ?_ (0, 0) (⟨Nat.zero_le _, rfl⟩)
  rintro N1 hN2 ⟨k, b⟩ hi3 ih4
  refine (show Pv _ _ 5 [some (.ref 0), some (.int (Int32.ofNat s)), some (.int (Int32.ofNat n)), some (.int b), some (.int (Int32.ofNat k))] [] F Q from ?_)
  obtain ⟨hk, hb⟩ := hi3
  refine Pv.iloadS rfl rfl ?_
  refine Pv.iload rfl rfl ?_
  refine Pv.icmp rfl (fun c5 => ?_) (fun c5 => ?_)
  · skip
    replace c5 := (i_le (a := n) (b := k) (by omega) (by omega)).mp (of_decide_eq_true c5)
    refine Pv.iload rfl rfl ?_
    exact Pv.ret rfl (by rw [hQ]; exact ⟨by rw [hb, show k = n by omega], rfl⟩)
  · skip
    replace c5 := mt (i_le (a := n) (b := k) (by omega) (by omega)).mpr (of_decide_eq_false c5)
    refine Pv.iload rfl rfl ?_
    refine Pv.lit rfl ?_
    refine Pv.icmp rfl (fun c6 => ?_) (fun c6 => ?_)
    · skip
      replace c6 := (i_le (a := 60) (b := k) (by omega) (by omega)).mp (of_decide_eq_true c6)
      refine Pv.iload rfl rfl ?_
      exact Pv.ret rfl (by rw [hQ]; exact ⟨by rw [hb, show k = n by omega], rfl⟩)
    · skip
      replace c6 := mt (i_le (a := 60) (b := k) (by omega) (by omega)).mpr (of_decide_eq_false c6)
      refine Pv.aload rfl rfl ?_
      refine Pv.getR (v := .ref 12) rfl rfl (GW.at (a := 0) (k := 4) (b := 12) hG (by decide)) ?_
      refine Pv.getI (z := Int32.ofNat (h_d S)) rfl rfl (hS.d) ?_
      refine Pv.iload rfl rfl ?_
      refine Pv.bin (z := Int32.ofNat ((h_d S) + k)) rfl (i_add (h_d S) k) ?_
      refine Pv.lit rfl ?_
      refine Pv.irem (z := Int32.ofNat (((h_d S) + k) % 2)) rfl (i_rem2 (by omega)) ?_
      refine Pv.iload rfl rfl ?_
      refine Pv.icmp rfl (fun c7 => ?_) (fun c7 => ?_)
      · skip
        replace c7 := (i_eq (a := ((h_d S) + k) % 2) (b := s) (by omega) (by omega)).mp (of_decide_eq_true c7)
        refine Pv.iinc (y := Int32.ofNat (k + 1)) (lo' := [some (.ref 0), some (.int (Int32.ofNat s)), some (.int (Int32.ofNat n)), some (.int b), some (.int (Int32.ofNat (k + 1)))]) rfl rfl (i_add k 1) rfl ?_
        refine Pv.goto rfl ?_
        exact ih4 (k + 1, b) (⟨by omega, by rw [hb]; exact (if_pos c7).symm⟩)
      · skip
        replace c7 := mt (i_eq (a := ((h_d S) + k) % 2) (b := s) (by omega) (by omega)).mpr (of_decide_eq_false c7)
        refine Pv.iload rfl rfl ?_
        refine Pv.aload rfl rfl ?_
        refine Pv.getR (v := .ref 43) rfl rfl (GW.at (a := 0) (k := 11) (b := 43) hG (by decide)) ?_
        refine Pv.iload rfl rfl ?_
        refine Pv.ald (z := w_rm T S g k) rfl (by rw [i_toNat (by omega)]; exact h43 _ (by omega)) ?_
        refine Pv.bin (z := b + (w_rm T S g k)) rfl (rfl) ?_
        refine Pv.istore (lo' := [some (.ref 0), some (.int (Int32.ofNat s)), some (.int (Int32.ofNat n)), some (.int (b + (w_rm T S g k))), some (.int (Int32.ofNat k))]) rfl rfl ?_
        refine Pv.iinc (y := Int32.ofNat (k + 1)) (lo' := [some (.ref 0), some (.int (Int32.ofNat s)), some (.int (Int32.ofNat n)), some (.int (b + (w_rm T S g k))), some (.int (Int32.ofNat (k + 1)))]) rfl rfl (i_add k 1) rfl ?_
        refine Pv.goto rfl ?_
        exact ih4 (k + 1, b + (w_rm T S g k)) (⟨by omega, by rw [hb]; exact (if_neg c7).symm⟩)
set_option maxRecDepth 100000 in
set_option maxHeartbeats 4000000 in
theorem o_wouldCome {F : FW} {t g s n w : Nat} {T : St} {S : Sh} (hG : GW F) (ht : F.2.1 0 13 = .ref t) (hT : TR F t T) (hS : SHR F 12 (t_m T) S) (h43 : AR F 43 n (w_rm T S g)) (hg : g < t_g T) (hs : s < 2) (hn : n ≤ 60) : Pm Z_X10_wouldCome [.ref 0, .int (Int32.ofNat g), .int (Int32.ofNat s), .int (Int32.ofNat w), .int (Int32.ofNat n)] F (fun r F' => r = some (.int ((w_s T S g s w n).2.2)) ∧ F' = F) := by
  refine Pm.of fun N => ?_
  obtain ⟨Q, hQ⟩ : ∃ Q : Option Value → FW → Prop, Q = (fun r F' => r = some (.int ((w_s T S g s w n).2.2)) ∧ F' = F) := ⟨_, rfl⟩
  rw [← hQ]
  have b7 := hS.db
  have b5 := hT.gb
  refine (show Pv (ab_T (L_X10_wouldCome Z_X10_slotOf Z_X7_amountOf Z_X1_amountMoved Z_X7_stockAfter)) N 0 [some (.ref 0), some (.int (Int32.ofNat g)), some (.int (Int32.ofNat s)), some (.int (Int32.ofNat w)), some (.int (Int32.ofNat n)), none, none, none, none, none, none, none, none, none] [] F Q from ?_)
  refine Pv.iload rfl rfl ?_
  refine Pv.iload rfl rfl ?_
  refine Pv.callI (as := [.int (Int32.ofNat g), .int (Int32.ofNat s)]) (rest := []) (z := Int32.ofNat (2 * g + s)) rfl rfl rfl (f_slotOf (g := g) (s := s)) ?_
  refine Pv.istore (lo' := [some (.ref 0), some (.int (Int32.ofNat g)), some (.int (Int32.ofNat s)), some (.int (Int32.ofNat w)), some (.int (Int32.ofNat n)), some (.int (Int32.ofNat (2 * g + s))), none, none, none, none, none, none, none, none]) rfl rfl ?_
  refine Pv.iload rfl rfl ?_
  refine Pv.lit rfl ?_
  refine Pv.iload rfl rfl ?_
  refine Pv.bin (z := Int32.ofNat (1 - s)) rfl (i_1m (by omega)) ?_
  refine Pv.callI (as := [.int (Int32.ofNat g), .int (Int32.ofNat (1 - s))]) (rest := []) (z := Int32.ofNat (2 * g + (1 - s))) rfl rfl rfl (f_slotOf (g := g) (s := 1 - s)) ?_
  refine Pv.istore (lo' := [some (.ref 0), some (.int (Int32.ofNat g)), some (.int (Int32.ofNat s)), some (.int (Int32.ofNat w)), some (.int (Int32.ofNat n)), some (.int (Int32.ofNat (2 * g + s))), some (.int (Int32.ofNat (2 * g + (1 - s)))), none, none, none, none, none, none, none]) rfl rfl ?_
  refine Pv.aload rfl rfl ?_
  refine Pv.getR (v := .ref t) rfl rfl (ht) ?_
  refine Pv.lit rfl ?_
  refine Pv.iload rfl rfl ?_
  refine Pv.callVI (as := [.ref t, .int 1, .int (Int32.ofNat (2 * g + s))]) (rest := []) (z := t_a T (1 * 12 + (2 * g + s))) rfl rfl rfl (f_amountOf (s := 1) (k := 2 * g + s) hT (by omega)) ?_
  refine Pv.istore (lo' := [some (.ref 0), some (.int (Int32.ofNat g)), some (.int (Int32.ofNat s)), some (.int (Int32.ofNat w)), some (.int (Int32.ofNat n)), some (.int (Int32.ofNat (2 * g + s))), some (.int (Int32.ofNat (2 * g + (1 - s)))), some (.int (t_a T (1 * 12 + (2 * g + s)))), none, none, none, none, none, none]) rfl rfl ?_
  refine Pv.aload rfl rfl ?_
  refine Pv.getR (v := .ref t) rfl rfl (ht) ?_
  refine Pv.lit rfl ?_
  refine Pv.iload rfl rfl ?_
  refine Pv.callVI (as := [.ref t, .int 1, .int (Int32.ofNat (2 * g + (1 - s)))]) (rest := []) (z := t_a T (1 * 12 + (2 * g + (1 - s)))) rfl rfl rfl (f_amountOf (s := 1) (k := 2 * g + (1 - s)) hT (by omega)) ?_
  refine Pv.istore (lo' := [some (.ref 0), some (.int (Int32.ofNat g)), some (.int (Int32.ofNat s)), some (.int (Int32.ofNat w)), some (.int (Int32.ofNat n)), some (.int (Int32.ofNat (2 * g + s))), some (.int (Int32.ofNat (2 * g + (1 - s)))), some (.int (t_a T (1 * 12 + (2 * g + s)))), some (.int (t_a T (1 * 12 + (2 * g + (1 - s))))), none, none, none, none, none]) rfl rfl ?_
  refine Pv.aload rfl rfl ?_
  refine Pv.getR (v := .ref 12) rfl rfl (GW.at (a := 0) (k := 4) (b := 12) hG (by decide)) ?_
  refine Pv.getR (v := .ref 13) rfl rfl (hS.o 0 (by decide)) ?_
  refine Pv.iload rfl rfl ?_
  refine Pv.ald (z := h_s S (2 * g + s)) rfl (by rw [i_toNat (by omega)]; exact hS.s _ (by omega)) ?_
  refine Pv.iload rfl rfl ?_
  refine Pv.bin (z := (h_s S (2 * g + s)) - (Int32.ofNat w)) rfl (rfl) ?_
  refine Pv.istore (lo' := [some (.ref 0), some (.int (Int32.ofNat g)), some (.int (Int32.ofNat s)), some (.int (Int32.ofNat w)), some (.int (Int32.ofNat n)), some (.int (Int32.ofNat (2 * g + s))), some (.int (Int32.ofNat (2 * g + (1 - s)))), some (.int (t_a T (1 * 12 + (2 * g + s)))), some (.int (t_a T (1 * 12 + (2 * g + (1 - s))))), some (.int ((h_s S (2 * g + s)) - (Int32.ofNat w))), none, none, none, none]) rfl rfl ?_
  refine Pv.aload rfl rfl ?_
  refine Pv.getR (v := .ref 12) rfl rfl (GW.at (a := 0) (k := 4) (b := 12) hG (by decide)) ?_
  refine Pv.getR (v := .ref 13) rfl rfl (hS.o 0 (by decide)) ?_
  refine Pv.iload rfl rfl ?_
  refine Pv.ald (z := h_s S (2 * g + (1 - s))) rfl (by rw [i_toNat (by omega)]; exact hS.s _ (by omega)) ?_
  refine Pv.istore (lo' := [some (.ref 0), some (.int (Int32.ofNat g)), some (.int (Int32.ofNat s)), some (.int (Int32.ofNat w)), some (.int (Int32.ofNat n)), some (.int (Int32.ofNat (2 * g + s))), some (.int (Int32.ofNat (2 * g + (1 - s)))), some (.int (t_a T (1 * 12 + (2 * g + s)))), some (.int (t_a T (1 * 12 + (2 * g + (1 - s))))), some (.int ((h_s S (2 * g + s)) - (Int32.ofNat w))), some (.int (h_s S (2 * g + (1 - s)))), none, none, none]) rfl rfl ?_
  refine Pv.lit rfl ?_
  refine Pv.istore (lo' := [some (.ref 0), some (.int (Int32.ofNat g)), some (.int (Int32.ofNat s)), some (.int (Int32.ofNat w)), some (.int (Int32.ofNat n)), some (.int (Int32.ofNat (2 * g + s))), some (.int (Int32.ofNat (2 * g + (1 - s)))), some (.int (t_a T (1 * 12 + (2 * g + s)))), some (.int (t_a T (1 * 12 + (2 * g + (1 - s))))), some (.int ((h_s S (2 * g + s)) - (Int32.ofNat w))), some (.int (h_s S (2 * g + (1 - s)))), some (.int 0), none, none]) rfl rfl ?_
  refine Pv.lit rfl ?_
  refine Pv.istore (lo' := [some (.ref 0), some (.int (Int32.ofNat g)), some (.int (Int32.ofNat s)), some (.int (Int32.ofNat w)), some (.int (Int32.ofNat n)), some (.int (Int32.ofNat (2 * g + s))), some (.int (Int32.ofNat (2 * g + (1 - s)))), some (.int (t_a T (1 * 12 + (2 * g + s)))), some (.int (t_a T (1 * 12 + (2 * g + (1 - s))))), some (.int ((h_s S (2 * g + s)) - (Int32.ofNat w))), some (.int (h_s S (2 * g + (1 - s)))), some (.int 0), some (.int 0), none]) rfl rfl ?_
  refine Pv.lp (ι := Nat × Int32 × Int32 × Int32 × (Option Value)) (lof := fun ⟨k, h, u, c, o1⟩ => [some (.ref 0), some (.int (Int32.ofNat g)), some (.int (Int32.ofNat s)), some (.int (Int32.ofNat w)), some (.int (Int32.ofNat n)), some (.int (Int32.ofNat (2 * g + s))), some (.int (Int32.ofNat (2 * g + (1 - s)))), some (.int (t_a T (1 * 12 + (2 * g + s)))), some (.int (t_a T (1 * 12 + (2 * g + (1 - s))))), some (.int h), some (.int u), some (.int c), some (.int (Int32.ofNat k)), o1]) (Ff := fun ⟨k, h, u, c, o1⟩ => F) (P := fun ⟨k, h, u, c, o1⟩ => k ≤ n ∧ h = (w_s T S g s w k).1 ∧ u = (w_s T S g s w k).2.1 ∧ c = (w_s T S g s w k).2.2) ?_ (0, (h_s S (2 * g + s)) - (Int32.ofNat w), h_s S (2 * g + (1 - s)), 0, none) (⟨Nat.zero_le _, rfl, rfl, rfl⟩)
  rintro N2 hN3 ⟨k, h, u, c, o1⟩ hi4 ih5
  refine (show Pv _ _ 72 [some (.ref 0), some (.int (Int32.ofNat g)), some (.int (Int32.ofNat s)), some (.int (Int32.ofNat w)), some (.int (Int32.ofNat n)), some (.int (Int32.ofNat (2 * g + s))), some (.int (Int32.ofNat (2 * g + (1 - s)))), some (.int (t_a T (1 * 12 + (2 * g + s)))), some (.int (t_a T (1 * 12 + (2 * g + (1 - s))))), some (.int h), some (.int u), some (.int c), some (.int (Int32.ofNat k)), o1] [] F Q from ?_)
  obtain ⟨hk, e1, e2, e3⟩ := hi4
  refine Pv.iloadS rfl rfl ?_
  refine Pv.iload rfl rfl ?_
  refine Pv.icmp rfl (fun c6 => ?_) (fun c6 => ?_)
  · skip
    replace c6 := (i_le (a := n) (b := k) (by omega) (by omega)).mp (of_decide_eq_true c6)
    refine Pv.iload rfl rfl ?_
    exact Pv.ret rfl (by rw [hQ]; exact ⟨by rw [e3, show k = n by omega], rfl⟩)
  · skip
    replace c6 := mt (i_le (a := n) (b := k) (by omega) (by omega)).mpr (of_decide_eq_false c6)
    refine Pv.iload rfl rfl ?_
    refine Pv.lit rfl ?_
    refine Pv.icmp rfl (fun c7 => ?_) (fun c7 => ?_)
    · skip
      replace c7 := (i_le (a := 60) (b := k) (by omega) (by omega)).mp (of_decide_eq_true c7)
      refine Pv.iload rfl rfl ?_
      exact Pv.ret rfl (by rw [hQ]; exact ⟨by rw [e3, show k = n by omega], rfl⟩)
    · skip
      replace c7 := mt (i_le (a := 60) (b := k) (by omega) (by omega)).mpr (of_decide_eq_false c7)
      refine Pv.aload rfl rfl ?_
      refine Pv.getR (v := .ref 12) rfl rfl (GW.at (a := 0) (k := 4) (b := 12) hG (by decide)) ?_
      refine Pv.getI (z := Int32.ofNat (h_d S)) rfl rfl (hS.d) ?_
      refine Pv.iload rfl rfl ?_
      refine Pv.bin (z := Int32.ofNat ((h_d S) + k)) rfl (i_add (h_d S) k) ?_
      refine Pv.lit rfl ?_
      refine Pv.irem (z := Int32.ofNat (((h_d S) + k) % 2)) rfl (i_rem2 (by omega)) ?_
      refine Pv.iload rfl rfl ?_
      refine Pv.icmp rfl (fun c8 => ?_) (fun c8 => ?_)
      · skip
        replace c8 : decide (Int32.ofNat (((h_d S) + k) % 2) = Int32.ofNat s) = false := by simpa using c8
        replace c8 := mt (i_eq (a := ((h_d S) + k) % 2) (b := s) (by omega) (by omega)).mpr (of_decide_eq_false c8)
        refine Pv.iload rfl rfl ?_
        refine Pv.iload rfl rfl ?_
        refine Pv.iload rfl rfl ?_
        refine Pv.bin (z := (t_a T (1 * 12 + (2 * g + s))) - h) rfl (rfl) ?_
        refine Pv.aload rfl rfl ?_
        refine Pv.getR (v := .ref 43) rfl rfl (GW.at (a := 0) (k := 11) (b := 43) hG (by decide)) ?_
        refine Pv.iload rfl rfl ?_
        refine Pv.ald (z := w_rm T S g k) rfl (by rw [i_toNat (by omega)]; exact h43 _ (by omega)) ?_
        refine Pv.callI (as := [.int u, .int ((t_a T (1 * 12 + (2 * g + s))) - h), .int (w_rm T S g k)]) (rest := []) (z := m_moved u ((t_a T (1 * 12 + (2 * g + s))) - h) (w_rm T S g k)) rfl rfl rfl (f_amountMoved (x := u) (y := (t_a T (1 * 12 + (2 * g + s))) - h) (z := w_rm T S g k)) ?_
        refine Pv.istore (lo' := [some (.ref 0), some (.int (Int32.ofNat g)), some (.int (Int32.ofNat s)), some (.int (Int32.ofNat w)), some (.int (Int32.ofNat n)), some (.int (Int32.ofNat (2 * g + s))), some (.int (Int32.ofNat (2 * g + (1 - s)))), some (.int (t_a T (1 * 12 + (2 * g + s)))), some (.int (t_a T (1 * 12 + (2 * g + (1 - s))))), some (.int h), some (.int u), some (.int c), some (.int (Int32.ofNat k)), some (.int (m_moved u ((t_a T (1 * 12 + (2 * g + s))) - h) (w_rm T S g k)))]) rfl rfl ?_
        refine Pv.iload rfl rfl ?_
        refine Pv.iload rfl rfl ?_
        refine Pv.bin (z := h + (m_moved u ((t_a T (1 * 12 + (2 * g + s))) - h) (w_rm T S g k))) rfl (rfl) ?_
        refine Pv.istore (lo' := [some (.ref 0), some (.int (Int32.ofNat g)), some (.int (Int32.ofNat s)), some (.int (Int32.ofNat w)), some (.int (Int32.ofNat n)), some (.int (Int32.ofNat (2 * g + s))), some (.int (Int32.ofNat (2 * g + (1 - s)))), some (.int (t_a T (1 * 12 + (2 * g + s)))), some (.int (t_a T (1 * 12 + (2 * g + (1 - s))))), some (.int (h + (m_moved u ((t_a T (1 * 12 + (2 * g + s))) - h) (w_rm T S g k)))), some (.int u), some (.int c), some (.int (Int32.ofNat k)), some (.int (m_moved u ((t_a T (1 * 12 + (2 * g + s))) - h) (w_rm T S g k)))]) rfl rfl ?_
        refine Pv.iload rfl rfl ?_
        refine Pv.iload rfl rfl ?_
        refine Pv.bin (z := u - (m_moved u ((t_a T (1 * 12 + (2 * g + s))) - h) (w_rm T S g k))) rfl (rfl) ?_
        refine Pv.istore (lo' := [some (.ref 0), some (.int (Int32.ofNat g)), some (.int (Int32.ofNat s)), some (.int (Int32.ofNat w)), some (.int (Int32.ofNat n)), some (.int (Int32.ofNat (2 * g + s))), some (.int (Int32.ofNat (2 * g + (1 - s)))), some (.int (t_a T (1 * 12 + (2 * g + s)))), some (.int (t_a T (1 * 12 + (2 * g + (1 - s))))), some (.int (h + (m_moved u ((t_a T (1 * 12 + (2 * g + s))) - h) (w_rm T S g k)))), some (.int (u - (m_moved u ((t_a T (1 * 12 + (2 * g + s))) - h) (w_rm T S g k)))), some (.int c), some (.int (Int32.ofNat k)), some (.int (m_moved u ((t_a T (1 * 12 + (2 * g + s))) - h) (w_rm T S g k)))]) rfl rfl ?_
        refine Pv.iload rfl rfl ?_
        refine Pv.iload rfl rfl ?_
        refine Pv.bin (z := c + (m_moved u ((t_a T (1 * 12 + (2 * g + s))) - h) (w_rm T S g k))) rfl (rfl) ?_
        refine Pv.istore (lo' := [some (.ref 0), some (.int (Int32.ofNat g)), some (.int (Int32.ofNat s)), some (.int (Int32.ofNat w)), some (.int (Int32.ofNat n)), some (.int (Int32.ofNat (2 * g + s))), some (.int (Int32.ofNat (2 * g + (1 - s)))), some (.int (t_a T (1 * 12 + (2 * g + s)))), some (.int (t_a T (1 * 12 + (2 * g + (1 - s))))), some (.int (h + (m_moved u ((t_a T (1 * 12 + (2 * g + s))) - h) (w_rm T S g k)))), some (.int (u - (m_moved u ((t_a T (1 * 12 + (2 * g + s))) - h) (w_rm T S g k)))), some (.int (c + (m_moved u ((t_a T (1 * 12 + (2 * g + s))) - h) (w_rm T S g k)))), some (.int (Int32.ofNat k)), some (.int (m_moved u ((t_a T (1 * 12 + (2 * g + s))) - h) (w_rm T S g k)))]) rfl rfl ?_
        refine Pv.aload rfl rfl ?_
        refine Pv.getR (v := .ref t) rfl rfl (ht) ?_
        refine Pv.iload rfl rfl ?_
        refine Pv.iload rfl rfl ?_
        refine Pv.callVI (as := [.ref t, .int (Int32.ofNat (2 * g + s)), .int (h + (m_moved u ((t_a T (1 * 12 + (2 * g + s))) - h) (w_rm T S g k)))]) (rest := []) (z := ab_max 0 (m_left T (2 * g + s) (h + (m_moved u ((t_a T (1 * 12 + (2 * g + s))) - h) (w_rm T S g k))))) rfl rfl rfl (f_stockAfter (k := 2 * g + s) (x := h + (m_moved u ((t_a T (1 * 12 + (2 * g + s))) - h) (w_rm T S g k))) hT (by omega)) ?_
        refine Pv.istore (lo' := [some (.ref 0), some (.int (Int32.ofNat g)), some (.int (Int32.ofNat s)), some (.int (Int32.ofNat w)), some (.int (Int32.ofNat n)), some (.int (Int32.ofNat (2 * g + s))), some (.int (Int32.ofNat (2 * g + (1 - s)))), some (.int (t_a T (1 * 12 + (2 * g + s)))), some (.int (t_a T (1 * 12 + (2 * g + (1 - s))))), some (.int (ab_max 0 (m_left T (2 * g + s) (h + (m_moved u ((t_a T (1 * 12 + (2 * g + s))) - h) (w_rm T S g k)))))), some (.int (u - (m_moved u ((t_a T (1 * 12 + (2 * g + s))) - h) (w_rm T S g k)))), some (.int (c + (m_moved u ((t_a T (1 * 12 + (2 * g + s))) - h) (w_rm T S g k)))), some (.int (Int32.ofNat k)), some (.int (m_moved u ((t_a T (1 * 12 + (2 * g + s))) - h) (w_rm T S g k)))]) rfl rfl ?_
        refine Pv.aload rfl rfl ?_
        refine Pv.getR (v := .ref t) rfl rfl (ht) ?_
        refine Pv.iload rfl rfl ?_
        refine Pv.iload rfl rfl ?_
        refine Pv.callVI (as := [.ref t, .int (Int32.ofNat (2 * g + (1 - s))), .int (u - (m_moved u ((t_a T (1 * 12 + (2 * g + s))) - h) (w_rm T S g k)))]) (rest := []) (z := ab_max 0 (m_left T (2 * g + (1 - s)) (u - (m_moved u ((t_a T (1 * 12 + (2 * g + s))) - h) (w_rm T S g k))))) rfl rfl rfl (f_stockAfter (k := 2 * g + (1 - s)) (x := u - (m_moved u ((t_a T (1 * 12 + (2 * g + s))) - h) (w_rm T S g k))) hT (by omega)) ?_
        refine Pv.istore (lo' := [some (.ref 0), some (.int (Int32.ofNat g)), some (.int (Int32.ofNat s)), some (.int (Int32.ofNat w)), some (.int (Int32.ofNat n)), some (.int (Int32.ofNat (2 * g + s))), some (.int (Int32.ofNat (2 * g + (1 - s)))), some (.int (t_a T (1 * 12 + (2 * g + s)))), some (.int (t_a T (1 * 12 + (2 * g + (1 - s))))), some (.int (ab_max 0 (m_left T (2 * g + s) (h + (m_moved u ((t_a T (1 * 12 + (2 * g + s))) - h) (w_rm T S g k)))))), some (.int (ab_max 0 (m_left T (2 * g + (1 - s)) (u - (m_moved u ((t_a T (1 * 12 + (2 * g + s))) - h) (w_rm T S g k)))))), some (.int (c + (m_moved u ((t_a T (1 * 12 + (2 * g + s))) - h) (w_rm T S g k)))), some (.int (Int32.ofNat k)), some (.int (m_moved u ((t_a T (1 * 12 + (2 * g + s))) - h) (w_rm T S g k)))]) rfl rfl ?_
        refine Pv.iinc (y := Int32.ofNat (k + 1)) (lo' := [some (.ref 0), some (.int (Int32.ofNat g)), some (.int (Int32.ofNat s)), some (.int (Int32.ofNat w)), some (.int (Int32.ofNat n)), some (.int (Int32.ofNat (2 * g + s))), some (.int (Int32.ofNat (2 * g + (1 - s)))), some (.int (t_a T (1 * 12 + (2 * g + s)))), some (.int (t_a T (1 * 12 + (2 * g + (1 - s))))), some (.int (ab_max 0 (m_left T (2 * g + s) (h + (m_moved u ((t_a T (1 * 12 + (2 * g + s))) - h) (w_rm T S g k)))))), some (.int (ab_max 0 (m_left T (2 * g + (1 - s)) (u - (m_moved u ((t_a T (1 * 12 + (2 * g + s))) - h) (w_rm T S g k)))))), some (.int (c + (m_moved u ((t_a T (1 * 12 + (2 * g + s))) - h) (w_rm T S g k)))), some (.int (Int32.ofNat (k + 1))), some (.int (m_moved u ((t_a T (1 * 12 + (2 * g + s))) - h) (w_rm T S g k)))]) rfl rfl (i_add k 1) rfl ?_
        refine Pv.goto rfl ?_
        exact ih5 (k + 1, ab_max 0 (m_left T (2 * g + s) (h + (m_moved u ((t_a T (1 * 12 + (2 * g + s))) - h) (w_rm T S g k)))), ab_max 0 (m_left T (2 * g + (1 - s)) (u - (m_moved u ((t_a T (1 * 12 + (2 * g + s))) - h) (w_rm T S g k)))), c + (m_moved u ((t_a T (1 * 12 + (2 * g + s))) - h) (w_rm T S g k)), (some (.int (m_moved u ((t_a T (1 * 12 + (2 * g + s))) - h) (w_rm T S g k))))) (⟨by omega, by rw [w_s_f c8, ← e1, ← e2], by rw [w_s_f c8, ← e1, ← e2], by rw [w_s_f c8, ← e1, ← e2, ← e3]⟩)
      · skip
        replace c8 : decide (Int32.ofNat (((h_d S) + k) % 2) = Int32.ofNat s) = true := by simpa using c8
        replace c8 := (i_eq (a := ((h_d S) + k) % 2) (b := s) (by omega) (by omega)).mp (of_decide_eq_true c8)
        refine Pv.iload rfl rfl ?_
        refine Pv.iload rfl rfl ?_
        refine Pv.iload rfl rfl ?_
        refine Pv.bin (z := (t_a T (1 * 12 + (2 * g + (1 - s)))) - u) rfl (rfl) ?_
        refine Pv.aload rfl rfl ?_
        refine Pv.getR (v := .ref 43) rfl rfl (GW.at (a := 0) (k := 11) (b := 43) hG (by decide)) ?_
        refine Pv.iload rfl rfl ?_
        refine Pv.ald (z := w_rm T S g k) rfl (by rw [i_toNat (by omega)]; exact h43 _ (by omega)) ?_
        refine Pv.callI (as := [.int h, .int ((t_a T (1 * 12 + (2 * g + (1 - s)))) - u), .int (w_rm T S g k)]) (rest := []) (z := m_moved h ((t_a T (1 * 12 + (2 * g + (1 - s)))) - u) (w_rm T S g k)) rfl rfl rfl (f_amountMoved (x := h) (y := (t_a T (1 * 12 + (2 * g + (1 - s)))) - u) (z := w_rm T S g k)) ?_
        refine Pv.istore (lo' := [some (.ref 0), some (.int (Int32.ofNat g)), some (.int (Int32.ofNat s)), some (.int (Int32.ofNat w)), some (.int (Int32.ofNat n)), some (.int (Int32.ofNat (2 * g + s))), some (.int (Int32.ofNat (2 * g + (1 - s)))), some (.int (t_a T (1 * 12 + (2 * g + s)))), some (.int (t_a T (1 * 12 + (2 * g + (1 - s))))), some (.int h), some (.int u), some (.int c), some (.int (Int32.ofNat k)), some (.int (m_moved h ((t_a T (1 * 12 + (2 * g + (1 - s)))) - u) (w_rm T S g k)))]) rfl rfl ?_
        refine Pv.iload rfl rfl ?_
        refine Pv.iload rfl rfl ?_
        refine Pv.bin (z := h - (m_moved h ((t_a T (1 * 12 + (2 * g + (1 - s)))) - u) (w_rm T S g k))) rfl (rfl) ?_
        refine Pv.istore (lo' := [some (.ref 0), some (.int (Int32.ofNat g)), some (.int (Int32.ofNat s)), some (.int (Int32.ofNat w)), some (.int (Int32.ofNat n)), some (.int (Int32.ofNat (2 * g + s))), some (.int (Int32.ofNat (2 * g + (1 - s)))), some (.int (t_a T (1 * 12 + (2 * g + s)))), some (.int (t_a T (1 * 12 + (2 * g + (1 - s))))), some (.int (h - (m_moved h ((t_a T (1 * 12 + (2 * g + (1 - s)))) - u) (w_rm T S g k)))), some (.int u), some (.int c), some (.int (Int32.ofNat k)), some (.int (m_moved h ((t_a T (1 * 12 + (2 * g + (1 - s)))) - u) (w_rm T S g k)))]) rfl rfl ?_
        refine Pv.iload rfl rfl ?_
        refine Pv.iload rfl rfl ?_
        refine Pv.bin (z := u + (m_moved h ((t_a T (1 * 12 + (2 * g + (1 - s)))) - u) (w_rm T S g k))) rfl (rfl) ?_
        refine Pv.istore (lo' := [some (.ref 0), some (.int (Int32.ofNat g)), some (.int (Int32.ofNat s)), some (.int (Int32.ofNat w)), some (.int (Int32.ofNat n)), some (.int (Int32.ofNat (2 * g + s))), some (.int (Int32.ofNat (2 * g + (1 - s)))), some (.int (t_a T (1 * 12 + (2 * g + s)))), some (.int (t_a T (1 * 12 + (2 * g + (1 - s))))), some (.int (h - (m_moved h ((t_a T (1 * 12 + (2 * g + (1 - s)))) - u) (w_rm T S g k)))), some (.int (u + (m_moved h ((t_a T (1 * 12 + (2 * g + (1 - s)))) - u) (w_rm T S g k)))), some (.int c), some (.int (Int32.ofNat k)), some (.int (m_moved h ((t_a T (1 * 12 + (2 * g + (1 - s)))) - u) (w_rm T S g k)))]) rfl rfl ?_
        refine Pv.goto rfl ?_
        refine Pv.aload rfl rfl ?_
        refine Pv.getR (v := .ref t) rfl rfl (ht) ?_
        refine Pv.iload rfl rfl ?_
        refine Pv.iload rfl rfl ?_
        refine Pv.callVI (as := [.ref t, .int (Int32.ofNat (2 * g + s)), .int (h - (m_moved h ((t_a T (1 * 12 + (2 * g + (1 - s)))) - u) (w_rm T S g k)))]) (rest := []) (z := ab_max 0 (m_left T (2 * g + s) (h - (m_moved h ((t_a T (1 * 12 + (2 * g + (1 - s)))) - u) (w_rm T S g k))))) rfl rfl rfl (f_stockAfter (k := 2 * g + s) (x := h - (m_moved h ((t_a T (1 * 12 + (2 * g + (1 - s)))) - u) (w_rm T S g k))) hT (by omega)) ?_
        refine Pv.istore (lo' := [some (.ref 0), some (.int (Int32.ofNat g)), some (.int (Int32.ofNat s)), some (.int (Int32.ofNat w)), some (.int (Int32.ofNat n)), some (.int (Int32.ofNat (2 * g + s))), some (.int (Int32.ofNat (2 * g + (1 - s)))), some (.int (t_a T (1 * 12 + (2 * g + s)))), some (.int (t_a T (1 * 12 + (2 * g + (1 - s))))), some (.int (ab_max 0 (m_left T (2 * g + s) (h - (m_moved h ((t_a T (1 * 12 + (2 * g + (1 - s)))) - u) (w_rm T S g k)))))), some (.int (u + (m_moved h ((t_a T (1 * 12 + (2 * g + (1 - s)))) - u) (w_rm T S g k)))), some (.int c), some (.int (Int32.ofNat k)), some (.int (m_moved h ((t_a T (1 * 12 + (2 * g + (1 - s)))) - u) (w_rm T S g k)))]) rfl rfl ?_
        refine Pv.aload rfl rfl ?_
        refine Pv.getR (v := .ref t) rfl rfl (ht) ?_
        refine Pv.iload rfl rfl ?_
        refine Pv.iload rfl rfl ?_
        refine Pv.callVI (as := [.ref t, .int (Int32.ofNat (2 * g + (1 - s))), .int (u + (m_moved h ((t_a T (1 * 12 + (2 * g + (1 - s)))) - u) (w_rm T S g k)))]) (rest := []) (z := ab_max 0 (m_left T (2 * g + (1 - s)) (u + (m_moved h ((t_a T (1 * 12 + (2 * g + (1 - s)))) - u) (w_rm T S g k))))) rfl rfl rfl (f_stockAfter (k := 2 * g + (1 - s)) (x := u + (m_moved h ((t_a T (1 * 12 + (2 * g + (1 - s)))) - u) (w_rm T S g k))) hT (by omega)) ?_
        refine Pv.istore (lo' := [some (.ref 0), some (.int (Int32.ofNat g)), some (.int (Int32.ofNat s)), some (.int (Int32.ofNat w)), some (.int (Int32.ofNat n)), some (.int (Int32.ofNat (2 * g + s))), some (.int (Int32.ofNat (2 * g + (1 - s)))), some (.int (t_a T (1 * 12 + (2 * g + s)))), some (.int (t_a T (1 * 12 + (2 * g + (1 - s))))), some (.int (ab_max 0 (m_left T (2 * g + s) (h - (m_moved h ((t_a T (1 * 12 + (2 * g + (1 - s)))) - u) (w_rm T S g k)))))), some (.int (ab_max 0 (m_left T (2 * g + (1 - s)) (u + (m_moved h ((t_a T (1 * 12 + (2 * g + (1 - s)))) - u) (w_rm T S g k)))))), some (.int c), some (.int (Int32.ofNat k)), some (.int (m_moved h ((t_a T (1 * 12 + (2 * g + (1 - s)))) - u) (w_rm T S g k)))]) rfl rfl ?_
        refine Pv.iinc (y := Int32.ofNat (k + 1)) (lo' := [some (.ref 0), some (.int (Int32.ofNat g)), some (.int (Int32.ofNat s)), some (.int (Int32.ofNat w)), some (.int (Int32.ofNat n)), some (.int (Int32.ofNat (2 * g + s))), some (.int (Int32.ofNat (2 * g + (1 - s)))), some (.int (t_a T (1 * 12 + (2 * g + s)))), some (.int (t_a T (1 * 12 + (2 * g + (1 - s))))), some (.int (ab_max 0 (m_left T (2 * g + s) (h - (m_moved h ((t_a T (1 * 12 + (2 * g + (1 - s)))) - u) (w_rm T S g k)))))), some (.int (ab_max 0 (m_left T (2 * g + (1 - s)) (u + (m_moved h ((t_a T (1 * 12 + (2 * g + (1 - s)))) - u) (w_rm T S g k)))))), some (.int c), some (.int (Int32.ofNat (k + 1))), some (.int (m_moved h ((t_a T (1 * 12 + (2 * g + (1 - s)))) - u) (w_rm T S g k)))]) rfl rfl (i_add k 1) rfl ?_
        refine Pv.goto rfl ?_
        exact ih5 (k + 1, ab_max 0 (m_left T (2 * g + s) (h - (m_moved h ((t_a T (1 * 12 + (2 * g + (1 - s)))) - u) (w_rm T S g k)))), ab_max 0 (m_left T (2 * g + (1 - s)) (u + (m_moved h ((t_a T (1 * 12 + (2 * g + (1 - s)))) - u) (w_rm T S g k)))), c, (some (.int (m_moved h ((t_a T (1 * 12 + (2 * g + (1 - s)))) - u) (w_rm T S g k))))) (⟨by omega, by rw [w_s_t c8, ← e1, ← e2], by rw [w_s_t c8, ← e1, ← e2], by rw [w_s_t c8, ← e3]⟩)
set_option maxRecDepth 100000 in
set_option maxHeartbeats 4000000 in
theorem o_without {F : FW} {t : Nat} {T : St} {S : Sh} (hG : GW F) (ht : F.2.1 0 13 = .ref t) (hT : TR F t T) (hS : SHR F 12 (t_m T) S) (j0 : t = 45 ∨ t = 53) (hI : INV T S) (x y z w : Int32) : Pm Z_X10_without [.ref 0, .int x, .int y, .int z, .int w] F (fun r F' => r = some (.int (c_without T S x y z w)) ∧ CDR F F') := by
  refine Pm.of fun N => ?_
  obtain ⟨Q, hQ⟩ : ∃ Q : Option Value → FW → Prop, Q = (fun r F' => r = some (.int (c_without T S x y z w)) ∧ CDR F F') := ⟨_, rfl⟩
  rw [← hQ]
  have b3 := hT.mb
  have b4 := hT.nb
  have b5 := hT.gb
  have b6 := m_from_lt S
  have b7 := hS.db
  refine (show Pv (ab_T (L_X10_without Z_X10_isSlot Z_X10_isWithin Z_X10_foreseeRoom Z_X10_roomTowards Z_X10_slotOf Z_X10_wouldCome)) N 0 [some (.ref 0), some (.int x), some (.int y), some (.int z), some (.int w), none, none, none] [] F Q from ?_)
  refine Pv.aload rfl rfl ?_
  refine Pv.iload rfl rfl ?_
  refine Pv.iload rfl rfl ?_
  refine Pv.callVI (as := [.ref 0, .int x, .int y]) (rest := []) (z := b2i ((nd (t_g T) x).isSome && (nd 2 y).isSome)) rfl rfl rfl (o_isSlot hG ht hT hS j0 x y) ?_
  refine Pv.if0 rfl (fun c1 => ?_) (fun c1 => ?_)
  · skip
    replace c1 := of_decide_eq_true c1
    replace c1 := b2z.mp c1
    refine Pv.lit rfl ?_
    exact Pv.ret rfl (by rw [hQ]; exact ⟨by unfold c_without; rw [aGS_f c1], FX.rf⟩)
  · skip
    replace c1 := of_decide_eq_false c1
    replace c1 := b2n.mp c1
    obtain ⟨g, s, hg, hs, hgl, hsl, rfl, rfl⟩ := gs_t c1
    refine Pv.iload rfl rfl ?_
    refine Pv.lit rfl ?_
    refine Pv.callI (as := [.int z, .int 250]) (rest := []) (z := b2i (decide (1 ≤ z) && decide (z ≤ 250))) rfl rfl rfl ((o_isWithin z 250)) ?_
    refine Pv.if0 rfl (fun c2 => ?_) (fun c2 => ?_)
    · skip
      replace c2 := of_decide_eq_true c2
      replace c2 := b2z.mp c2
      refine Pv.lit rfl ?_
      exact Pv.ret rfl (by rw [hQ]; exact ⟨by unfold c_without; rw [aGS_t hg hs, ndr_f ((ndr_in (a := 1) (b := 250) (by omega) (by omega)).symm.trans c2)], FX.rf⟩)
    · skip
      replace c2 := of_decide_eq_false c2
      replace c2 := b2n.mp c2
      obtain ⟨n, hn, hna, hnb, rfl⟩ := ndr_t ((ndr_in (a := 1) (b := 250) (by omega) (by omega)).symm.trans c2)
      refine Pv.iload rfl rfl ?_
      refine Pv.lit rfl ?_
      refine Pv.callI (as := [.int w, .int 60]) (rest := []) (z := b2i (decide (1 ≤ w) && decide (w ≤ 60))) rfl rfl rfl ((o_isWithin w 60)) ?_
      refine Pv.if0 rfl (fun c3 => ?_) (fun c3 => ?_)
      · skip
        replace c3 : decide (b2i (decide (1 ≤ w) && decide (w ≤ 60)) = 0) = false := by simpa using c3
        replace c3 := of_decide_eq_false c3
        replace c3 := b2n.mp c3
        obtain ⟨d, hd, hda, hdb, rfl⟩ := ndr_t ((ndr_in (a := 1) (b := 60) (by omega) (by omega)).symm.trans c3)
        refine Pv.aload rfl rfl ?_
        refine Pv.iload rfl rfl ?_
        refine Pv.iload rfl rfl ?_
        refine Pv.callV (as := [.ref 0, .int (Int32.ofNat g), .int (Int32.ofNat d)]) (rest := []) rfl rfl rfl (o_foreseeRoom (g := g) (d := d) hG ht hT hS j0 hgl (by omega) (by omega)) ?_
        rintro _ G4 ⟨rfl, x5, hr6⟩
        have hx7 := hT.fx (P := fun q => (7 ≤ q ∧ q ≤ 9) ∨ (20 ≤ q ∧ q ≤ 35) ∨ q = 40 ∨ q = 43) x5 (fun q h1 h2 (c : (7 ≤ q ∧ q ≤ 9) ∨ (20 ≤ q ∧ q ≤ 35) ∨ q = 40 ∨ q = 43) => by omega)
        have hx8 := hS.fx (P := fun q => (7 ≤ q ∧ q ≤ 9) ∨ (20 ≤ q ∧ q ≤ 35) ∨ q = 40 ∨ q = 43) x5 (fun q h1 h2 (c : (7 ≤ q ∧ q ≤ 9) ∨ (20 ≤ q ∧ q ≤ 35) ∨ q = 40 ∨ q = 43) => by omega)
        have hx9 := hG.fx (P := fun q => (7 ≤ q ∧ q ≤ 9) ∨ (20 ≤ q ∧ q ≤ 35) ∨ q = 40 ∨ q = 43) x5
        have hx10 : G4.2.1 0 13 = .ref t := by rw [x5.2.2.1]; exact ht
        have hwd : w_dn S d ≤ 60 := by unfold w_dn; split <;> omega
        refine (show Pv _ _ 38 [some (.ref 0), some (.int (Int32.ofNat g)), some (.int (Int32.ofNat s)), some (.int (Int32.ofNat n)), some (.int (Int32.ofNat d)), none, none, none] [.int (Int32.ofNat (w_dn S d))] G4 Q from ?_)
        refine Pv.istore (lo' := [some (.ref 0), some (.int (Int32.ofNat g)), some (.int (Int32.ofNat s)), some (.int (Int32.ofNat n)), some (.int (Int32.ofNat d)), some (.int (Int32.ofNat (w_dn S d))), none, none]) rfl rfl ?_
        refine Pv.aload rfl rfl ?_
        refine Pv.iload rfl rfl ?_
        refine Pv.iload rfl rfl ?_
        refine Pv.callVI (as := [.ref 0, .int (Int32.ofNat s), .int (Int32.ofNat (w_dn S d))]) (rest := []) (z := w_rt T S g s (w_dn S d)) rfl rfl rfl (o_roomTowards (g := g) (s := s) (n := w_dn S d) hx9 hx10 hx7 hx8 hr6 hgl hsl hwd) ?_
        refine Pv.iload rfl rfl ?_
        refine Pv.icmp rfl (fun c11 => ?_) (fun c11 => ?_)
        · skip
          replace c11 := of_decide_eq_true c11
          refine Pv.aload rfl rfl ?_
          refine Pv.getR (v := .ref 12) rfl rfl (GW.at (a := 0) (k := 4) (b := 12) hx9 (by decide)) ?_
          refine Pv.getR (v := .ref 13) rfl rfl (hx8.o 0 (by decide)) ?_
          refine Pv.iload rfl rfl ?_
          refine Pv.iload rfl rfl ?_
          refine Pv.callI (as := [.int (Int32.ofNat g), .int (Int32.ofNat s)]) (rest := [.ref 13]) (z := Int32.ofNat (2 * g + s)) rfl rfl rfl (f_slotOf (g := g) (s := s)) ?_
          refine Pv.ald (z := h_s S (2 * g + s)) rfl (by rw [i_toNat (by omega)]; exact hx8.s _ (by omega)) ?_
          obtain ⟨st, hst, est, stb⟩ := nat_of (hI.sb (2 * g + s) (by omega)).1
          have stc : st ≤ 999 := by have := (hI.sb (2 * g + s) (by omega)).2; omega
          rw [est]
          refine Pv.istore (lo' := [some (.ref 0), some (.int (Int32.ofNat g)), some (.int (Int32.ofNat s)), some (.int (Int32.ofNat n)), some (.int (Int32.ofNat d)), some (.int (Int32.ofNat (w_dn S d))), some (.int (Int32.ofNat st)), none]) rfl rfl ?_
          refine Pv.lit rfl ?_
          refine Pv.istore (lo' := [some (.ref 0), some (.int (Int32.ofNat g)), some (.int (Int32.ofNat s)), some (.int (Int32.ofNat n)), some (.int (Int32.ofNat d)), some (.int (Int32.ofNat (w_dn S d))), some (.int (Int32.ofNat st)), some (.int 0)]) rfl rfl ?_
          refine Pv.lp (ι := Nat) (lof := fun v => [some (.ref 0), some (.int (Int32.ofNat g)), some (.int (Int32.ofNat s)), some (.int (Int32.ofNat n)), some (.int (Int32.ofNat d)), some (.int (Int32.ofNat (w_dn S d))), some (.int (Int32.ofNat st)), some (.int (Int32.ofNat v))]) (Ff := fun v => G4) (P := fun v => v ≤ st + 1 ∧ m_fst (pWc T S g s n d) v = none) ?_ 0 (⟨Nat.zero_le _, rfl⟩)
          rintro N12 hN13 v hi14 ih15
          refine (show Pv _ _ 71 [some (.ref 0), some (.int (Int32.ofNat g)), some (.int (Int32.ofNat s)), some (.int (Int32.ofNat n)), some (.int (Int32.ofNat d)), some (.int (Int32.ofNat (w_dn S d))), some (.int (Int32.ofNat st)), some (.int (Int32.ofNat v))] [] G4 Q from ?_)
          obtain ⟨hv, hb⟩ := hi14
          refine Pv.iloadS rfl rfl ?_
          refine Pv.iload rfl rfl ?_
          refine Pv.icmp rfl (fun c16 => ?_) (fun c16 => ?_)
          · skip
            replace c16 := (i_lt (a := st) (b := v) (by omega) (by omega)).mp (of_decide_eq_true c16)
            refine Pv.lit rfl ?_
            exact Pv.ret rfl (by rw [hQ]; exact ⟨by unfold c_without; rw [aGS_t hg hs, hn]; dsimp only; rw [hd]; dsimp only; rw [if_neg (Int32.not_lt.mpr c11), hst, show st + 1 = v by omega, hb]; rfl, x5⟩)
          · skip
            replace c16 := mt (i_lt (a := st) (b := v) (by omega) (by omega)).mpr (of_decide_eq_false c16)
            refine Pv.aload rfl rfl ?_
            refine Pv.iload rfl rfl ?_
            refine Pv.iload rfl rfl ?_
            refine Pv.iload rfl rfl ?_
            refine Pv.iload rfl rfl ?_
            refine Pv.callVI (as := [.ref 0, .int (Int32.ofNat g), .int (Int32.ofNat s), .int (Int32.ofNat v), .int (Int32.ofNat (w_dn S d))]) (rest := []) (z := (w_s T S g s v (w_dn S d)).2.2) rfl rfl rfl (o_wouldCome (g := g) (s := s) (n := w_dn S d) (w := v) hx9 hx10 hx7 hx8 hr6 hgl hsl hwd) ?_
            refine Pv.iload rfl rfl ?_
            refine Pv.icmp rfl (fun c17 => ?_) (fun c17 => ?_)
            · skip
              replace c17 := of_decide_eq_true c17
              refine Pv.iinc (y := Int32.ofNat (v + 1)) (lo' := [some (.ref 0), some (.int (Int32.ofNat g)), some (.int (Int32.ofNat s)), some (.int (Int32.ofNat n)), some (.int (Int32.ofNat d)), some (.int (Int32.ofNat (w_dn S d))), some (.int (Int32.ofNat st)), some (.int (Int32.ofNat (v + 1)))]) rfl rfl (i_add v 1) rfl ?_
              refine Pv.goto rfl ?_
              exact ih15 (v + 1) (⟨by omega, m_fst_n hb (by unfold pWc; rw [decide_eq_true c17]; rfl)⟩)
            · skip
              replace c17 := of_decide_eq_false c17
              refine Pv.iload rfl rfl ?_
              exact Pv.ret rfl (by rw [hQ]; exact ⟨by unfold c_without; rw [aGS_t hg hs, hn]; dsimp only; rw [hd]; dsimp only; rw [if_neg (Int32.not_lt.mpr c11), hst, m_fst_e hb (by unfold pWc; rw [decide_eq_false c17]; rfl) (by omega)]; rfl, x5⟩)
        · skip
          replace c11 := of_decide_eq_false c11
          refine Pv.lit rfl ?_
          exact Pv.ret rfl (by rw [hQ]; exact ⟨by unfold c_without; rw [aGS_t hg hs, hn]; dsimp only; rw [hd]; dsimp only; rw [if_pos (Int32.not_le.mp c11)], x5⟩)
      · skip
        replace c3 : decide (b2i (decide (1 ≤ w) && decide (w ≤ 60)) = 0) = true := by simpa using c3
        replace c3 := of_decide_eq_true c3
        replace c3 := b2z.mp c3
        refine Pv.lit rfl ?_
        exact Pv.ret rfl (by rw [hQ]; exact ⟨by unfold c_without; rw [aGS_t hg hs, hn]; dsimp only; rw [ndr_f ((ndr_in (a := 1) (b := 60) (by omega) (by omega)).symm.trans c3)], FX.rf⟩)
set_option maxRecDepth 100000 in
set_option maxHeartbeats 4000000 in
theorem q_without {F : FW} {T : St} {S : Sh} (hT : XT F T) (hS : XS F (t_m T) S) (hG : GW F) (hTB : TBB T) (hI : INV T S) (x y z w : Int32) : Pm Z_X11_without [.ref 69, .int x, .int y, .int z, .int w] F (fun r F' => r = some (.int (a_without T S x y z w)) ∧ RDR F F') := by
  refine Pm.of fun N => ?_
  obtain ⟨Q, hQ⟩ : ∃ Q : Option Value → FW → Prop, Q = (fun r F' => r = some (.int (a_without T S x y z w)) ∧ RDR F F') := ⟨_, rfl⟩
  rw [← hQ]
  have b3 := hT.mb
  have b4 := hT.nb
  have b5 := hT.gb
  have b6 := m_from_lt S
  have b7 := hS.db
  have hSB := hI.sb
  refine (show Pv (ab_T (L_X11_without Z_X11_isPlace Z_X11_isIn Z_X11_tries Z_X11_cell Z_X11_goesOn Z_X11_back)) N 0 [some (.ref 69), some (.int x), some (.int y), some (.int z), some (.int w), none, none, none, none, none] [] F Q from ?_)
  refine Pv.aload rfl rfl ?_
  refine Pv.lit rfl ?_
  refine Pv.putI rfl rfl ?_
  refine Pv.aload rfl rfl ?_
  refine Pv.iload rfl rfl ?_
  refine Pv.iload rfl rfl ?_
  refine Pv.callVI (as := [.ref 69, .int x, .int y]) (rest := []) (z := b2i ((nd (t_g T) x).isSome && (nd 2 y).isSome)) rfl rfl rfl (q_isPlace (hT.fx (P := fun q => q = 69) (((FX.rf (P := fun q => q = 69))).fp rfl) (by decide)) (hG.fx (P := fun _ => True) (((FX.rf (P := fun _ => True))).fp trivial)) x y) ?_
  refine Pv.if0 rfl (fun c1 => ?_) (fun c1 => ?_)
  · skip
    replace c1 := of_decide_eq_true c1
    replace c1 := b2z.mp c1
    refine Pv.lit rfl ?_
    exact Pv.ret rfl (by rw [hQ]; exact ⟨by unfold a_without; rw [aGS_f c1], (RDR.rf).fp (Or.inl rfl)⟩)
  · skip
    replace c1 := of_decide_eq_false c1
    replace c1 := b2n.mp c1
    obtain ⟨g, s, hg, hs, hgl, hsl, rfl, rfl⟩ := gs_t c1
    refine Pv.iload rfl rfl ?_
    refine Pv.lit rfl ?_
    refine Pv.lit rfl ?_
    refine Pv.callI (as := [.int z, .int 1, .int 250]) (rest := []) (z := b2i (decide (1 ≤ z) && decide (z ≤ 250))) rfl rfl rfl (q_isIn z 1 250) ?_
    refine Pv.if0 rfl (fun c2 => ?_) (fun c2 => ?_)
    · skip
      replace c2 := of_decide_eq_true c2
      replace c2 := b2z.mp c2
      refine Pv.lit rfl ?_
      exact Pv.ret rfl (by rw [hQ]; exact ⟨by unfold a_without; rw [aGS_t hg hs, ndr_f ((ndr_in (a := 1) (b := 250) (by omega) (by omega)).symm.trans c2)], (RDR.rf).fp (Or.inl rfl)⟩)
    · skip
      replace c2 := of_decide_eq_false c2
      replace c2 := b2n.mp c2
      obtain ⟨n, hn, hna, hnb, rfl⟩ := ndr_t ((ndr_in (a := 1) (b := 250) (by omega) (by omega)).symm.trans c2)
      refine Pv.iload rfl rfl ?_
      refine Pv.lit rfl ?_
      refine Pv.lit rfl ?_
      refine Pv.callI (as := [.int w, .int 1, .int 60]) (rest := []) (z := b2i (decide (1 ≤ w) && decide (w ≤ 60))) rfl rfl rfl (q_isIn w 1 60) ?_
      refine Pv.if0 rfl (fun c3 => ?_) (fun c3 => ?_)
      · skip
        replace c3 : decide (b2i (decide (1 ≤ w) && decide (w ≤ 60)) = 0) = false := by simpa using c3
        replace c3 := of_decide_eq_false c3
        replace c3 := b2n.mp c3
        obtain ⟨d, hd, hda, hdb, rfl⟩ := ndr_t ((ndr_in (a := 1) (b := 60) (by omega) (by omega)).symm.trans c3)
        refine Pv.aload rfl rfl ?_
        refine Pv.callV (as := [.ref 69]) (rest := []) rfl rfl rfl (g_tries (hG.fx (P := fun _ => True) (((FX.rf (P := fun _ => True))).fp trivial))) ?_
        rintro _ G4 ⟨rfl, x5, y6⟩
        have rt7 := RT.of ((RDR.rf).fp (Or.inl rfl)) x5 y6
        have hs8 := RT.ofS ((RDR.rf).fp (Or.inl rfl)) x5 b3 hS
        have hr0 := RDR.t78 ((RDR.rf).fp (Or.inl rfl)) x5
        have hx9 := RT.T rt7 hT
        have hx10 := RT.G rt7 hG
        refine (show Pv _ _ 42 [some (.ref 69), some (.int (Int32.ofNat g)), some (.int (Int32.ofNat s)), some (.int (Int32.ofNat n)), some (.int (Int32.ofNat d)), none, none, none, none, none] [] G4 Q from ?_)
        refine Pv.iload rfl rfl ?_
        refine Pv.iload rfl rfl ?_
        refine Pv.callI (as := [.int (Int32.ofNat g), .int (Int32.ofNat s)]) (rest := []) (z := Int32.ofNat (2 * g + s)) rfl rfl rfl (g_cell (g := g) (s := s)) ?_
        refine Pv.istore (lo' := [some (.ref 69), some (.int (Int32.ofNat g)), some (.int (Int32.ofNat s)), some (.int (Int32.ofNat n)), some (.int (Int32.ofNat d)), some (.int (Int32.ofNat (2 * g + s))), none, none, none, none]) rfl rfl ?_
        refine Pv.aload rfl rfl ?_
        refine Pv.getR (v := .ref 71) rfl rfl (GW.at (a := 69) (k := 6) (b := 71) hx10 (by decide)) ?_
        refine Pv.lit rfl ?_
        refine Pv.iload rfl rfl ?_
        refine Pv.bin (z := Int32.ofNat (160 + (2 * g + s))) rfl (i_add 160 (2 * g + s)) ?_
        refine Pv.ald (z := h_c S (2 * g + s)) rfl (by rw [i_toNat (by omega)]; exact hs8.c _ (by omega)) ?_
        refine Pv.istore (lo' := [some (.ref 69), some (.int (Int32.ofNat g)), some (.int (Int32.ofNat s)), some (.int (Int32.ofNat n)), some (.int (Int32.ofNat d)), some (.int (Int32.ofNat (2 * g + s))), some (.int (h_c S (2 * g + s))), none, none, none]) rfl rfl ?_
        refine Pv.aload rfl rfl ?_
        refine Pv.getR (v := .ref 71) rfl rfl (GW.at (a := 69) (k := 6) (b := 71) hx10 (by decide)) ?_
        refine Pv.lit rfl ?_
        refine Pv.iload rfl rfl ?_
        refine Pv.bin (z := Int32.ofNat (124 + (2 * g + s))) rfl (i_add 124 (2 * g + s)) ?_
        refine Pv.ald (z := h_s S (2 * g + s)) rfl (by rw [i_toNat (by omega)]; exact hs8.s _ (by omega)) ?_
        obtain ⟨st, hst, est, stb⟩ := nat_of (hI.sb (2 * g + s) (by omega)).1
        have stc : st ≤ 999 := by have := (hI.sb (2 * g + s) (by omega)).2; omega
        have hst2 : (h_s S (2 * g + s)).toInt = st := by rw [est, i_toInt stb]
        rw [est]
        refine Pv.istore (lo' := [some (.ref 69), some (.int (Int32.ofNat g)), some (.int (Int32.ofNat s)), some (.int (Int32.ofNat n)), some (.int (Int32.ofNat d)), some (.int (Int32.ofNat (2 * g + s))), some (.int (h_c S (2 * g + s))), some (.int (Int32.ofNat st)), none, none]) rfl rfl ?_
        refine Pv.lit rfl ?_
        refine Pv.istore (lo' := [some (.ref 69), some (.int (Int32.ofNat g)), some (.int (Int32.ofNat s)), some (.int (Int32.ofNat n)), some (.int (Int32.ofNat d)), some (.int (Int32.ofNat (2 * g + s))), some (.int (h_c S (2 * g + s))), some (.int (Int32.ofNat st)), some (.int (-1)), none]) rfl rfl ?_
        refine Pv.lit rfl ?_
        refine Pv.istore (lo' := [some (.ref 69), some (.int (Int32.ofNat g)), some (.int (Int32.ofNat s)), some (.int (Int32.ofNat n)), some (.int (Int32.ofNat d)), some (.int (Int32.ofNat (2 * g + s))), some (.int (h_c S (2 * g + s))), some (.int (Int32.ofNat st)), some (.int (-1)), some (.int 0)]) rfl rfl ?_
        refine Pv.lp (ι := Nat × Int32 × FW) (lof := fun ⟨v, w, G⟩ => [some (.ref 69), some (.int (Int32.ofNat g)), some (.int (Int32.ofNat s)), some (.int (Int32.ofNat n)), some (.int (Int32.ofNat d)), some (.int (Int32.ofNat (2 * g + s))), some (.int (h_c S (2 * g + s))), some (.int (Int32.ofNat st)), some (.int w), some (.int (Int32.ofNat v))]) (Ff := fun ⟨v, w, G⟩ => G) (P := fun ⟨v, w, G⟩ => (v ≤ st + 1) ∧ (RT F G) ∧ (XS G (t_m T) S) ∧ (w = oN (m_fst (pWo T S g s n d) v)) ∧ (RDR F G)) ?_ (0, (-1), G4) (⟨Nat.zero_le _, rt7, hs8, rfl, hr0⟩)
        rintro N11 hN12 ⟨v, w, G⟩ hi13 ih14
        refine (show Pv _ _ 80 [some (.ref 69), some (.int (Int32.ofNat g)), some (.int (Int32.ofNat s)), some (.int (Int32.ofNat n)), some (.int (Int32.ofNat d)), some (.int (Int32.ofNat (2 * g + s))), some (.int (h_c S (2 * g + s))), some (.int (Int32.ofNat st)), some (.int w), some (.int (Int32.ofNat v))] [] G Q from ?_)
        obtain ⟨hv, rt, hxs, hw, hr⟩ := hi13
        have hx15 := RT.T rt hT
        have hx16 := RT.G rt hG
        refine Pv.iloadS rfl rfl ?_
        refine Pv.iload rfl rfl ?_
        refine Pv.icmp rfl (fun c17 => ?_) (fun c17 => ?_)
        · skip
          replace c17 := (i_lt (a := st) (b := v) (by omega) (by omega)).mp (of_decide_eq_true c17)
          refine Pv.iload rfl rfl ?_
          exact Pv.ret rfl (by rw [hQ]; exact ⟨by unfold a_without; rw [aGS_t hg hs, hn]; dsimp only; rw [hd]; dsimp only; rw [hst, show st + 1 = v by omega, hw], hr⟩)
        · skip
          replace c17 := mt (i_lt (a := st) (b := v) (by omega) (by omega)).mpr (of_decide_eq_false c17)
          refine Pv.iload rfl rfl ?_
          refine Pv.if0 rfl (fun c18 => ?_) (fun c18 => ?_)
          · skip
            replace c18 := of_decide_eq_true c18
            refine Pv.iload rfl rfl ?_
            exact Pv.ret rfl (by rw [hQ]; exact ⟨by unfold a_without; rw [aGS_t hg hs, hn]; dsimp only; rw [hd]; dsimp only; rw [hst, oN_s (k := v) (n := st + 1) (by omega) (by rw [← hw]; exact Int32.not_lt.mpr c18), hw], hr⟩)
          · skip
            replace c18 := of_decide_eq_false c18
            have hb := oN_n (P := pWo T S g s n d) (v := v) (by omega) (by rw [← hw]; exact Int32.not_le.mp c18)
            refine Pv.aload rfl rfl ?_
            refine Pv.getR (v := .ref 71) rfl rfl (GW.at (a := 69) (k := 6) (b := 71) hx16 (by decide)) ?_
            refine Pv.lit rfl ?_
            refine Pv.iload rfl rfl ?_
            refine Pv.bin (z := Int32.ofNat (124 + (2 * g + s))) rfl (i_add 124 (2 * g + s)) ?_
            refine Pv.dup2 rfl ?_
            refine Pv.ald (z := h_s S (2 * g + s)) rfl (by rw [i_toNat (by omega)]; exact hxs.s _ (by omega)) ?_
            refine Pv.iload rfl rfl ?_
            refine Pv.bin (z := (h_s S (2 * g + s)) - (Int32.ofNat v)) rfl (rfl) ?_
            refine Pv.astk (k := 124 + (2 * g + s)) (z := (h_s S (2 * g + s)) - (Int32.ofNat v)) rfl (i_toNat (by omega)) (rfl) ?_
            obtain ⟨K, hK⟩ : ∃ K, K = (fp G 71 (124 + (2 * g + s)) ((h_s S (2 * g + s)) - (Int32.ofNat v))) := ⟨_, rfl⟩
            rw [← hK]
            have rtK : RT F K := by rw [hK]; exact (RT.st rt (by omega) (by omega))
            have hsK : XS K (t_m T) (m_ws S (2 * g + s) v) := by rw [hK]; exact XS.one hxs b3 (by omega)
            have hx19 := RT.T rtK hT
            have hx20 := RT.G rtK hG
            refine Pv.aload rfl rfl ?_
            refine Pv.iload rfl rfl ?_
            refine Pv.callV (as := [.ref 69, .int (Int32.ofNat d)]) (rest := []) rfl rfl rfl (g_goesOn (n := d) hx19 hsK hx20 hTB (INV.sb (INV_ws hI (by omega) (by omega))) (by omega)) ?_
            rintro _ G21 ⟨rfl, x22, hs23⟩
            have rt24 := RT.rx rtK x22
            have hx25 := RT.T rt24 hT
            have hx26 := RT.G rt24 hG
            have bD27 := XS.db hs23
            refine (show Pv _ _ 113 [some (.ref 69), some (.int (Int32.ofNat g)), some (.int (Int32.ofNat s)), some (.int (Int32.ofNat n)), some (.int (Int32.ofNat d)), some (.int (Int32.ofNat (2 * g + s))), some (.int (h_c S (2 * g + s))), some (.int (Int32.ofNat st)), some (.int w), some (.int (Int32.ofNat v))] [.int (Int32.ofNat (h_d (m_days T (m_ws S (2 * g + s) v) d) - h_d (m_ws S (2 * g + s) v)))] G21 Q from ?_)
            refine Pv.pop rfl ?_
            refine Pv.aload rfl rfl ?_
            refine Pv.getR (v := .ref 71) rfl rfl (GW.at (a := 69) (k := 6) (b := 71) hx26 (by decide)) ?_
            refine Pv.lit rfl ?_
            refine Pv.iload rfl rfl ?_
            refine Pv.bin (z := Int32.ofNat (160 + (2 * g + s))) rfl (i_add 160 (2 * g + s)) ?_
            refine Pv.ald (z := h_c (m_days T (m_ws S (2 * g + s) v) d) (2 * g + s)) rfl (by rw [i_toNat (by omega)]; exact hs23.c _ (by omega)) ?_
            refine Pv.iload rfl rfl ?_
            refine Pv.bin (z := (h_c (m_days T (m_ws S (2 * g + s) v) d) (2 * g + s)) - (h_c S (2 * g + s))) rfl (rfl) ?_
            refine Pv.iload rfl rfl ?_
            refine Pv.icmp rfl (fun c28 => ?_) (fun c28 => ?_)
            · skip
              replace c28 := of_decide_eq_true c28
              refine Pv.aload rfl rfl ?_
              refine Pv.callV (as := [.ref 69]) (rest := []) rfl rfl rfl (g_back hx26) ?_
              rintro _ G29 ⟨rfl, x30, y31, z32⟩
              have rd33 := RT.bk rt24 x30 y31 z32
              have rt34 := RT.bkT rt24 x30 y31 z32
              refine (show Pv _ _ 140 [some (.ref 69), some (.int (Int32.ofNat g)), some (.int (Int32.ofNat s)), some (.int (Int32.ofNat n)), some (.int (Int32.ofNat d)), some (.int (Int32.ofNat (2 * g + s))), some (.int (h_c S (2 * g + s))), some (.int (Int32.ofNat st)), some (.int w), some (.int (Int32.ofNat v))] [] G29 Q from ?_)
              refine Pv.iinc (y := Int32.ofNat (v + 1)) (lo' := [some (.ref 69), some (.int (Int32.ofNat g)), some (.int (Int32.ofNat s)), some (.int (Int32.ofNat n)), some (.int (Int32.ofNat d)), some (.int (Int32.ofNat (2 * g + s))), some (.int (h_c S (2 * g + s))), some (.int (Int32.ofNat st)), some (.int w), some (.int (Int32.ofNat (v + 1)))]) rfl rfl (i_add v 1) rfl ?_
              refine Pv.goto rfl ?_
              exact ih14 (v + 1, w, G29) (⟨by omega, rt34, (RDR.S rd33 b3 hS), by rw [hw, hb, m_fst_n hb (by unfold pWo; rw [decide_eq_true c28]; rfl)], rd33⟩)
            · skip
              replace c28 := of_decide_eq_false c28
              refine Pv.iload rfl rfl ?_
              refine Pv.istore (lo' := [some (.ref 69), some (.int (Int32.ofNat g)), some (.int (Int32.ofNat s)), some (.int (Int32.ofNat n)), some (.int (Int32.ofNat d)), some (.int (Int32.ofNat (2 * g + s))), some (.int (h_c S (2 * g + s))), some (.int (Int32.ofNat st)), some (.int (Int32.ofNat v)), some (.int (Int32.ofNat v))]) rfl rfl ?_
              refine Pv.aload rfl rfl ?_
              refine Pv.callV (as := [.ref 69]) (rest := []) rfl rfl rfl (g_back hx26) ?_
              rintro _ G35 ⟨rfl, x36, y37, z38⟩
              have rd39 := RT.bk rt24 x36 y37 z38
              have rt40 := RT.bkT rt24 x36 y37 z38
              refine (show Pv _ _ 140 [some (.ref 69), some (.int (Int32.ofNat g)), some (.int (Int32.ofNat s)), some (.int (Int32.ofNat n)), some (.int (Int32.ofNat d)), some (.int (Int32.ofNat (2 * g + s))), some (.int (h_c S (2 * g + s))), some (.int (Int32.ofNat st)), some (.int (Int32.ofNat v)), some (.int (Int32.ofNat v))] [] G35 Q from ?_)
              refine Pv.iinc (y := Int32.ofNat (v + 1)) (lo' := [some (.ref 69), some (.int (Int32.ofNat g)), some (.int (Int32.ofNat s)), some (.int (Int32.ofNat n)), some (.int (Int32.ofNat d)), some (.int (Int32.ofNat (2 * g + s))), some (.int (h_c S (2 * g + s))), some (.int (Int32.ofNat st)), some (.int (Int32.ofNat v)), some (.int (Int32.ofNat (v + 1)))]) rfl rfl (i_add v 1) rfl ?_
              refine Pv.goto rfl ?_
              exact ih14 (v + 1, Int32.ofNat v, G35) (⟨by omega, rt40, (RDR.S rd39 b3 hS), by rw [m_fst_e hb (by unfold pWo; rw [decide_eq_false c28]; rfl) (Nat.lt_succ_self v)]; rfl, rd39⟩)
      · skip
        replace c3 : decide (b2i (decide (1 ≤ w) && decide (w ≤ 60)) = 0) = true := by simpa using c3
        replace c3 := of_decide_eq_true c3
        replace c3 := b2z.mp c3
        refine Pv.lit rfl ?_
        exact Pv.ret rfl (by rw [hQ]; exact ⟨by unfold a_without; rw [aGS_t hg hs, hn]; dsimp only; rw [ndr_f ((ndr_in (a := 1) (b := 60) (by omega) (by omega)).symm.trans c3)], (RDR.rf).fp (Or.inl rfl)⟩)
