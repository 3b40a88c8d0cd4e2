set_option maxRecDepth 100000 in
set_option maxHeartbeats 4000000 in
theorem o_meet {F : FW} {t : Nat} {T : St} {S : Sh} (hG : GW F) (ht : F.2.1 0 13 = .ref t) (hT : TR F t T) (hS : SHR F 12 (t_m T) S) (j0 : t = 45 ∨ t = 53) (x y : Int32) : Pm Z_X10_meet [.ref 0, .int x, .int y] F (fun r F' => r = some (.int (a_meet T S x y)) ∧ CDR F F') := by
  refine Pm.of fun N => ?_
  obtain ⟨Q, hQ⟩ : ∃ Q : Option Value → FW → Prop, Q = (fun r F' => r = some (.int (a_meet T S x y)) ∧ CDR F F') := ⟨_, rfl⟩
  rw [← hQ]
  have b3 := hT.mb
  have b4 := hT.nb
  have b5 := hT.gb
  have b6 := m_from_lt S
  have b7 := hS.db
  refine (show Pv (ab_T (L_X10_meet Z_X10_areLivingTwo Z_X6_copyFrom Z_X1_passDays)) N 0 [some (.ref 0), some (.int x), some (.int y), none] [] F Q from ?_)
  refine Pv.aload rfl rfl ?_
  refine Pv.iload rfl rfl ?_
  refine Pv.iload rfl rfl ?_
  refine Pv.callVI (as := [.ref 0, .int x, .int y]) (rest := []) (z := b2i (liv2 T S x y).isSome) rfl rfl rfl (o_areLivingTwo hG ht hT hS j0 x y) ?_
  refine Pv.if0 rfl (fun c1 => ?_) (fun c1 => ?_)
  · skip
    replace c1 : decide (b2i (liv2 T S x y).isSome = 0) = false := by simpa using c1
    replace c1 := of_decide_eq_false c1
    replace c1 := b2n.mp c1
    obtain ⟨⟨m, o⟩, hl⟩ := Option.isSome_iff_exists.mp c1
    obtain ⟨hm, ho, -, -, -, rfl, rfl⟩ := liv2_s hl
    refine Pv.aload rfl rfl ?_
    refine Pv.getR (v := .ref 20) rfl rfl (GW.at (a := 0) (k := 5) (b := 20) hG (by decide)) ?_
    refine Pv.aload rfl rfl ?_
    refine Pv.getR (v := .ref 12) rfl rfl (GW.at (a := 0) (k := 4) (b := 12) hG (by decide)) ?_
    refine Pv.callV (as := [.ref 20, .ref 12]) (rest := []) rfl rfl rfl (f_shCopy (GW.o20 hG) hS b3 (by omega)) ?_
    rintro _ G2 ⟨rfl, x3, sr5⟩
    have hx4 := FX.tr (P := fun q => (7 ≤ q ∧ q ≤ 9) ∨ (20 ≤ q ∧ q ≤ 35) ∨ q = 40 ∨ q = 43) FX.rf (x3.wd (fun q (c : 20 ≤ q ∧ q ≤ 20 + 7) => (show (7 ≤ q ∧ q ≤ 9) ∨ (20 ≤ q ∧ q ≤ 35) ∨ q = 40 ∨ q = 43 by omega)))
    have hx6 := hT.fx (P := fun q => 20 ≤ q ∧ q ≤ 20 + 7) x3 (fun q h1 h2 (c : 20 ≤ q ∧ q ≤ 20 + 7) => by omega)
    have hx7 := hS.fx (P := fun q => 20 ≤ q ∧ q ≤ 20 + 7) x3 (fun q h1 h2 (c : 20 ≤ q ∧ q ≤ 20 + 7) => by omega)
    have hx8 := hG.fx (P := fun q => 20 ≤ q ∧ q ≤ 20 + 7) x3
    have hr9 : G2.2.1 0 13 = .ref t := by rw [x3.2.2.1]; exact ht
    refine (show Pv _ _ 22 [some (.ref 0), some (.int (Int32.ofNat m)), some (.int (Int32.ofNat o)), none] [] G2 Q from ?_)
    refine Pv.lit rfl ?_
    refine Pv.istore (lo' := [some (.ref 0), some (.int (Int32.ofNat m)), some (.int (Int32.ofNat o)), some (.int 0)]) rfl rfl ?_
    refine Pv.lp (ι := Nat × FW) (lof := fun ⟨k, G⟩ => [some (.ref 0), some (.int (Int32.ofNat m)), some (.int (Int32.ofNat o)), some (.int (Int32.ofNat k))]) (Ff := fun ⟨k, G⟩ => G) (P := fun ⟨k, G⟩ => k ≤ 101 ∧ FX (fun q => (7 ≤ q ∧ q ≤ 9) ∨ (20 ≤ q ∧ q ≤ 35) ∨ q = 40 ∨ q = 43) F G ∧ SHR G 20 (t_m T) (m_days T S k) ∧ m_fst (pMeet T S m o) k = none) ?_ (0, G2) (⟨Nat.zero_le _, hx4, sr5, rfl⟩)
    rintro N10 hN11 ⟨k, G⟩ hi12 ih13
    refine (show Pv _ _ 24 [some (.ref 0), some (.int (Int32.ofNat m)), some (.int (Int32.ofNat o)), some (.int (Int32.ofNat k))] [] G Q from ?_)
    obtain ⟨hk, hxG, hA, hb⟩ := hi12
    have hx14 := hT.fx (P := fun q => (7 ≤ q ∧ q ≤ 9) ∨ (20 ≤ q ∧ q ≤ 35) ∨ q = 40 ∨ q = 43) hxG (fun q h1 h2 (c : (7 ≤ q ∧ q ≤ 9) ∨ (20 ≤ q ∧ q ≤ 35) ∨ q = 40 ∨ q = 43) => by omega)
    have hx15 := hS.fx (P := fun q => (7 ≤ q ∧ q ≤ 9) ∨ (20 ≤ q ∧ q ≤ 35) ∨ q = 40 ∨ q = 43) hxG (fun q h1 h2 (c : (7 ≤ q ∧ q ≤ 9) ∨ (20 ≤ q ∧ q ≤ 35) ∨ q = 40 ∨ q = 43) => by omega)
    have hx16 := hG.fx (P := fun q => (7 ≤ q ∧ q ≤ 9) ∨ (20 ≤ q ∧ q ≤ 35) ∨ q = 40 ∨ q = 43) hxG
    have hx17 : G.2.1 0 13 = .ref t := by rw [hxG.2.2.1]; exact ht
    have bD := hA.db
    refine Pv.iloadS rfl rfl ?_
    refine Pv.lit rfl ?_
    refine Pv.icmp rfl (fun c18 => ?_) (fun c18 => ?_)
    · skip
      replace c18 := (i_lt (a := 100) (b := k) (by omega) (by omega)).mp (of_decide_eq_true c18)
      refine Pv.lit rfl ?_
      exact Pv.ret rfl (by rw [hQ]; exact ⟨by unfold a_meet; rw [hl]; dsimp only; rw [show 101 = k by omega, hb], hxG⟩)
    · skip
      replace c18 := mt (i_lt (a := 100) (b := k) (by omega) (by omega)).mpr (of_decide_eq_false c18)
      refine Pv.aload rfl rfl ?_
      refine Pv.getR (v := .ref 20) rfl rfl (GW.at (a := 0) (k := 5) (b := 20) hx16 (by decide)) ?_
      refine Pv.getR (v := .ref 25) rfl rfl (hA.o 4 (by decide)) ?_
      refine Pv.iload rfl rfl ?_
      refine Pv.ald (z := h_a (m_days T S k) m) rfl (by rw [i_toNat (by omega)]; exact hA.a _ (by omega)) ?_
      refine Pv.aload rfl rfl ?_
      refine Pv.getR (v := .ref 20) rfl rfl (GW.at (a := 0) (k := 5) (b := 20) hx16 (by decide)) ?_
      refine Pv.getR (v := .ref 25) rfl rfl (hA.o 4 (by decide)) ?_
      refine Pv.iload rfl rfl ?_
      refine Pv.ald (z := h_a (m_days T S k) o) rfl (by rw [i_toNat (by omega)]; exact hA.a _ (by omega)) ?_
      refine Pv.icmp rfl (fun c19 => ?_) (fun c19 => ?_)
      · skip
        replace c19 : decide (h_a (m_days T S k) m = h_a (m_days T S k) o) = false := by simpa using c19
        replace c19 := of_decide_eq_false c19
        refine Pv.aload rfl rfl ?_
        refine Pv.getR (v := .ref 20) rfl rfl (GW.at (a := 0) (k := 5) (b := 20) hx16 (by decide)) ?_
        refine Pv.getI (z := Int32.ofNat (h_d (m_days T S k))) rfl rfl (hA.d) ?_
        refine Pv.lit rfl ?_
        refine Pv.icmp rfl (fun c20 => ?_) (fun c20 => ?_)
        · skip
          replace c20 := (i_lt (a := h_d (m_days T S k)) (b := 400) (by omega) (by omega)).mp (of_decide_eq_true c20)
          refine Pv.aload rfl rfl ?_
          refine Pv.getR (v := .ref 7) rfl rfl (GW.at (a := 0) (k := 2) (b := 7) hx16 (by decide)) ?_
          refine Pv.aload rfl rfl ?_
          refine Pv.getR (v := .ref t) rfl rfl (hx17) ?_
          refine Pv.aload rfl rfl ?_
          refine Pv.getR (v := .ref 20) rfl rfl (GW.at (a := 0) (k := 5) (b := 20) hx16 (by decide)) ?_
          refine Pv.lit rfl ?_
          refine Pv.callV (as := [.ref 7, .ref t, .ref 20, .int 1]) (rest := []) rfl rfl rfl (f_passDays (n := 1) hx14 hA hx16 (by omega) (by omega) (by omega) (by omega)) ?_
          rintro _ G21 ⟨rfl, x22, sr24, pl25⟩
          have hx23 := FX.tr (P := fun q => (7 ≤ q ∧ q ≤ 9) ∨ (20 ≤ q ∧ q ≤ 35) ∨ q = 40 ∨ q = 43) hxG (x22.wd (fun q (c : (20 ≤ q ∧ q ≤ 20 + 7) ∨ (7 ≤ q ∧ q ≤ 9)) => (show (7 ≤ q ∧ q ≤ 9) ∨ (20 ≤ q ∧ q ≤ 35) ∨ q = 40 ∨ q = 43 by omega)))
          have hx26 := hx14.fx (P := fun q => (20 ≤ q ∧ q ≤ 20 + 7) ∨ (7 ≤ q ∧ q ≤ 9)) x22 (fun q h1 h2 (c : (20 ≤ q ∧ q ≤ 20 + 7) ∨ (7 ≤ q ∧ q ≤ 9)) => by omega)
          have hx27 := hx15.fx (P := fun q => (20 ≤ q ∧ q ≤ 20 + 7) ∨ (7 ≤ q ∧ q ≤ 9)) x22 (fun q h1 h2 (c : (20 ≤ q ∧ q ≤ 20 + 7) ∨ (7 ≤ q ∧ q ≤ 9)) => by omega)
          have hx28 := hx16.fx (P := fun q => (20 ≤ q ∧ q ≤ 20 + 7) ∨ (7 ≤ q ∧ q ≤ 9)) x22
          have hr29 : G21.2.1 0 13 = .ref t := by rw [x22.2.2.1]; exact hx17
          refine (show Pv _ _ 84 [some (.ref 0), some (.int (Int32.ofNat m)), some (.int (Int32.ofNat o)), some (.int (Int32.ofNat k))] [.int (Int32.ofNat (h_d (m_days T (m_days T S k) 1)) - Int32.ofNat (h_d (m_days T S k)))] G21 Q from ?_)
          have hP := pl25 0 rfl (by show h_d (m_days T S k) < 400; omega)
          have hq30 : SHR G21 20 (t_m T) (m_day T (m_days T S k)) := by have q := sr24; rw [show m_days T (m_days T S k) 1 = m_day T (m_days T S k) from if_pos (by show h_d (m_days T S k) < 400; omega)] at q; exact q
          refine Pv.pop rfl ?_
          refine Pv.iinc (y := Int32.ofNat (k + 1)) (lo' := [some (.ref 0), some (.int (Int32.ofNat m)), some (.int (Int32.ofNat o)), some (.int (Int32.ofNat (k + 1)))]) rfl rfl (i_add k 1) rfl ?_
          refine Pv.goto rfl ?_
          exact ih13 (k + 1, G21) (⟨by omega, hx23, by rw [m_days_s (by omega)]; exact hq30, m_fst_n hb (decide_eq_false c19)⟩)
        · skip
          replace c20 := mt (i_lt (a := h_d (m_days T S k)) (b := 400) (by omega) (by omega)).mpr (of_decide_eq_false c20)
          refine Pv.lit rfl ?_
          exact Pv.ret rfl (by rw [hQ]; exact ⟨by unfold a_meet; rw [hl]; dsimp only; rw [m_fst_z hb (by omega) (fun i hi => by unfold pMeet; rw [m_days_e (T := T) (S := S) hi (by omega)]; exact decide_eq_false c19)], hxG⟩)
      · skip
        replace c19 : decide (h_a (m_days T S k) m = h_a (m_days T S k) o) = true := by simpa using c19
        replace c19 := of_decide_eq_true c19
        refine Pv.iload rfl rfl ?_
        exact Pv.ret rfl (by rw [hQ]; exact ⟨by unfold a_meet; rw [hl]; dsimp only; rw [m_fst_e hb (decide_eq_true c19) (by omega)], hxG⟩)
  · skip
    replace c1 : decide (b2i (liv2 T S x y).isSome = 0) = true := by simpa using c1
    replace c1 := of_decide_eq_true c1
    replace c1 := b2z.mp c1
    refine Pv.lit rfl ?_
    exact Pv.ret rfl (by rw [hQ]; exact ⟨by unfold a_meet; rw [liv2_n c1], FX.rf⟩)
set_option maxRecDepth 100000 in
set_option maxHeartbeats 4000000 in
theorem f_valueAt {F : FW} {k : Nat} (hG : GW F) (hk : k < 940) : Pm Z_X8_valueAt [.ref 1, .int (Int32.ofNat k)] F (fun r F' => r = some (.int (F.1 2 k &&& 255)) ∧ F' = F) := by
  refine Pm.of fun N => ?_
  obtain ⟨Q, hQ⟩ : ∃ Q : Option Value → FW → Prop, Q = (fun r F' => r = some (.int (F.1 2 k &&& 255)) ∧ F' = F) := ⟨_, rfl⟩
  rw [← hQ]
  refine (show Pv (ab_T L_X8_valueAt) N 0 [some (.ref 1), some (.int (Int32.ofNat k))] [] F Q from ?_)
  refine Pv.iload rfl rfl ?_
  refine Pv.if0 rfl (fun c1 => ?_) (fun c1 => ?_)
  · skip
    replace c1 := (i_lt (a := k) (b := 0) (by omega) (by omega)).mp (of_decide_eq_true c1)
    omega
  · skip
    replace c1 := mt (i_lt (a := k) (b := 0) (by omega) (by omega)).mpr (of_decide_eq_false c1)
    refine Pv.iload rfl rfl ?_
    refine Pv.lit rfl ?_
    refine Pv.icmp rfl (fun c2 => ?_) (fun c2 => ?_)
    · skip
      replace c2 := (i_le (a := 940) (b := k) (by omega) (by omega)).mp (of_decide_eq_true c2)
      omega
    · skip
      replace c2 := mt (i_le (a := 940) (b := k) (by omega) (by omega)).mpr (of_decide_eq_false c2)
      refine Pv.aload rfl rfl ?_
      refine Pv.getR (v := .ref 2) rfl rfl (GW.at (a := 1) (k := 0) (b := 2) hG (by decide)) ?_
      refine Pv.iload rfl rfl ?_
      refine Pv.ald (z := F.1 2 k) rfl (by rw [i_toNat (by omega)]) ?_
      refine Pv.lit rfl ?_
      refine Pv.bin (z := (F.1 2 k) &&& 255) rfl (rfl) ?_
      refine Pv.goto rfl ?_
      exact Pv.ret rfl (by rw [hQ]; exact ⟨rfl, rfl⟩)
set_option maxRecDepth 100000 in
set_option maxHeartbeats 4000000 in
theorem o_couldGoSo {F : FW} {t n j : Nat} {T : St} (hG : GW F) (ht : F.2.1 0 13 = .ref t) (hT : TR F t T) (hn : 1 ≤ n) (hn2 : n ≤ 30) (hj : j < 12) : Pm Z_X10_couldGoSo [.ref 0, .int (Int32.ofNat j), .int (Int32.ofNat n)] F (fun r F' => r = some (.int (b2i (m_wh T j (fun q => F.1 2 q &&& 255) (n - 1)))) ∧ F' = F) := by
  refine Pm.of fun N => ?_
  obtain ⟨Q, hQ⟩ : ∃ Q : Option Value → FW → Prop, Q = (fun r F' => r = some (.int (b2i (m_wh T j (fun q => F.1 2 q &&& 255) (n - 1)))) ∧ F' = F) := ⟨_, rfl⟩
  rw [← hQ]
  refine (show Pv (ab_T (L_X10_couldGoSo Z_X8_valueAt Z_X7_stockAfter)) N 0 [some (.ref 0), some (.int (Int32.ofNat j)), some (.int (Int32.ofNat n)), none] [] F Q from ?_)
  refine Pv.lit rfl ?_
  refine Pv.istore (lo' := [some (.ref 0), some (.int (Int32.ofNat j)), some (.int (Int32.ofNat n)), some (.int 1)]) rfl rfl ?_
  refine Pv.lp (ι := Nat) (lof := fun k => [some (.ref 0), some (.int (Int32.ofNat j)), some (.int (Int32.ofNat n)), some (.int (Int32.ofNat k))]) (Ff := fun k => F) (P := fun k => 1 ≤ k ∧ k ≤ n ∧ m_wh T j (fun q => F.1 2 q &&& 255) (k - 1) = true) ?_ 1 (⟨Nat.le_refl _, hn, rfl⟩)
  rintro N1 hN2 k hi3 ih4
  refine (show Pv _ _ 2 [some (.ref 0), some (.int (Int32.ofNat j)), some (.int (Int32.ofNat n)), some (.int (Int32.ofNat k))] [] F Q from ?_)
  obtain ⟨hk, hkn, hb⟩ := hi3
  refine Pv.iloadS rfl rfl ?_
  refine Pv.iload rfl rfl ?_
  refine Pv.icmp rfl (fun c5 => ?_) (fun c5 => ?_)
  · skip
    replace c5 := (i_le (a := n) (b := k) (by omega) (by omega)).mp (of_decide_eq_true c5)
    refine Pv.lit rfl ?_
    exact Pv.zret rfl (by rw [hQ]; exact ⟨b2_t (by rw [show n - 1 = k - 1 by omega]; exact hb), rfl⟩)
  · skip
    replace c5 := mt (i_le (a := n) (b := k) (by omega) (by omega)).mpr (of_decide_eq_false c5)
    refine Pv.aload rfl rfl ?_
    refine Pv.getR (v := .ref t) rfl rfl (ht) ?_
    refine Pv.iload rfl rfl ?_
    refine Pv.aload rfl rfl ?_
    refine Pv.getR (v := .ref 1) rfl rfl (GW.at (a := 0) (k := 0) (b := 1) hG (by decide)) ?_
    refine Pv.iload rfl rfl ?_
    refine Pv.callVI (as := [.ref 1, .int (Int32.ofNat k)]) (rest := [.int (Int32.ofNat j), .ref t]) (z := F.1 2 k &&& 255) rfl rfl rfl (f_valueAt (k := k) hG (by omega)) ?_
    refine Pv.callVI (as := [.ref t, .int (Int32.ofNat j), .int (F.1 2 k &&& 255)]) (rest := []) (z := ab_max 0 (m_left T j (F.1 2 k &&& 255))) rfl rfl rfl (f_stockAfter (k := j) (x := F.1 2 k &&& 255) hT (by omega)) ?_
    refine Pv.aload rfl rfl ?_
    refine Pv.getR (v := .ref 1) rfl rfl (GW.at (a := 0) (k := 0) (b := 1) hG (by decide)) ?_
    refine Pv.iload rfl rfl ?_
    refine Pv.lit rfl ?_
    refine Pv.bin (z := Int32.ofNat (k + 1)) rfl (i_add k 1) ?_
    refine Pv.callVI (as := [.ref 1, .int (Int32.ofNat (k + 1))]) (rest := [.int (ab_max 0 (m_left T j (F.1 2 k &&& 255)))]) (z := F.1 2 (k + 1) &&& 255) rfl rfl rfl (f_valueAt (k := k + 1) hG (by omega)) ?_
    refine Pv.icmp rfl (fun c6 => ?_) (fun c6 => ?_)
    · skip
      replace c6 := of_decide_eq_true c6
      refine Pv.iinc (y := Int32.ofNat (k + 1)) (lo' := [some (.ref 0), some (.int (Int32.ofNat j)), some (.int (Int32.ofNat n)), some (.int (Int32.ofNat (k + 1)))]) rfl rfl (i_add k 1) rfl ?_
      refine Pv.goto rfl ?_
      exact ih4 (k + 1) (⟨by omega, by omega, by rw [show k + 1 - 1 = k - 1 + 1 by omega]; exact wh_t hb (by rw [show k - 1 + 1 = k by omega, show k - 1 + 2 = k + 1 by omega]; exact c6)⟩)
    · skip
      replace c6 := of_decide_eq_false c6
      refine Pv.lit rfl ?_
      exact Pv.zret rfl (by rw [hQ]; exact ⟨b2_f (wh_z (i := k - 1) (by rw [show k - 1 + 1 = k by omega, show k - 1 + 2 = k + 1 by omega]; exact c6) (by omega)), rfl⟩)
set_option maxRecDepth 100000 in
set_option maxHeartbeats 4000000 in
theorem o_which {F : FW} {t : Nat} {T : St} {S : Sh} (hG : GW F) (ht : F.2.1 0 13 = .ref t) (hT : TR F t T) (hS : SHR F 12 (t_m T) S) (j0 : t = 45 ∨ t = 53) (n : Nat) (hn : F.1 1 1 = Int32.ofNat n) (hn9 : n ≤ 940) : Pm Z_X10_which [.ref 0] F (fun r F' => r = some (.int (a_which T n (fun q => F.1 2 q &&& 255))) ∧ F' = fp F 1 1 0) := by
  refine Pm.of fun N => ?_
  obtain ⟨Q, hQ⟩ : ∃ Q : Option Value → FW → Prop, Q = (fun r F' => r = some (.int (a_which T n (fun q => F.1 2 q &&& 255))) ∧ F' = fp F 1 1 0) := ⟨_, rfl⟩
  rw [← hQ]
  have b3 := hT.mb
  have b4 := hT.nb
  have b5 := hT.gb
  have b6 := m_from_lt S
  have b7 := hS.db
  have q1 : (Int32.ofNat n - 1).toInt = (n : Int) - 1 := by rw [i_subI (by rw [i_toInt (by omega)]; show _ ≤ (n : Int) - 1; omega) (by rw [i_toInt (by omega)]; show (n : Int) - 1 ≤ _; omega), i_toInt (by omega)]; rfl
  have i30 : (30 : Int32).toInt = 30 := rfl
  refine (show Pv (ab_T (L_X10_which Z_X8_valueAt Z_X10_isShore Z_X10_slotOf Z_X10_couldGoSo)) N 0 [some (.ref 0), none, none, none, none, none] [] F Q from ?_)
  refine Pv.aload rfl rfl ?_
  refine Pv.getR (v := .ref 1) rfl rfl (GW.at (a := 0) (k := 0) (b := 1) hG (by decide)) ?_
  refine Pv.getI (z := Int32.ofNat n) rfl rfl (hn) ?_
  refine Pv.istore (lo' := [some (.ref 0), some (.int (Int32.ofNat n)), none, none, none, none]) rfl rfl ?_
  refine Pv.aload rfl rfl ?_
  refine Pv.getR (v := .ref 1) rfl rfl (GW.at (a := 0) (k := 0) (b := 1) hG (by decide)) ?_
  refine Pv.lit rfl ?_
  refine Pv.putI rfl rfl ?_
  refine Pv.iload rfl rfl ?_
  refine Pv.lit rfl ?_
  refine Pv.bin (z := Int32.ofNat n - 1) rfl (rfl) ?_
  refine Pv.istore (lo' := [some (.ref 0), some (.int (Int32.ofNat n)), some (.int (Int32.ofNat n - 1)), none, none, none]) rfl rfl ?_
  refine Pv.iload rfl rfl ?_
  refine Pv.lit rfl ?_
  refine Pv.icmp rfl (fun c1 => ?_) (fun c1 => ?_)
  · skip
    replace c1 := of_decide_eq_true c1
    rw [Int32.lt_iff_toInt_lt] at c1
    rw [q1] at c1
    rw [i_2] at c1
    refine Pv.lit rfl ?_
    exact Pv.ret rfl (by rw [hQ]; exact ⟨by unfold a_which; rw [if_neg (by omega)], rfl⟩)
  · skip
    replace c1 := of_decide_eq_false c1
    refine Pv.iload rfl rfl ?_
    refine Pv.lit rfl ?_
    refine Pv.icmp rfl (fun c2 => ?_) (fun c2 => ?_)
    · skip
      replace c2 := of_decide_eq_true c2
      rw [Int32.lt_iff_toInt_lt] at c1 c2
      rw [q1] at c1 c2
      rw [i_2] at c1
      rw [i30] at c2
      refine Pv.lit rfl ?_
      exact Pv.ret rfl (by rw [hQ]; exact ⟨by unfold a_which; rw [if_neg (by omega)], rfl⟩)
    · skip
      replace c2 := of_decide_eq_false c2
      rw [Int32.lt_iff_toInt_lt] at c1 c2
      rw [q1] at c1 c2
      rw [i_2] at c1
      rw [i30] at c2
      rw [show Int32.ofNat n - 1 = Int32.ofNat (n - 1) from i_subN (a := n) (b := 1) (by omega)]
      refine Pv.aload rfl rfl ?_
      refine Pv.getR (v := .ref 1) rfl rfl (GW.at (a := 0) (k := 0) (b := 1) hG (by decide)) ?_
      refine Pv.lit rfl ?_
      refine Pv.callVI (as := [.ref 1, .int 0]) (rest := []) (z := F.1 2 0 &&& 255) rfl rfl rfl (f_valueAt (k := 0) (hG.fx (P := fun _ => True) (((FX.rf (P := fun _ => True))).fp trivial)) (by omega)) ?_
      refine Pv.callI (as := [.int (F.1 2 0 &&& 255)]) (rest := []) (z := b2i (nd 2 (F.1 2 0 &&& 255)).isSome) rfl rfl rfl (o_isShore (F.1 2 0 &&& 255)) ?_
      refine Pv.if0 rfl (fun c3 => ?_) (fun c3 => ?_)
      · skip
        replace c3 : decide (b2i (nd 2 (F.1 2 0 &&& 255)).isSome = 0) = false := by simpa using c3
        replace c3 := of_decide_eq_false c3
        replace c3 := b2n.mp c3
        obtain ⟨s, hs, hsl, es⟩ := nd_t c3
        refine Pv.aload rfl rfl ?_
        refine Pv.getR (v := .ref 1) rfl rfl (GW.at (a := 0) (k := 0) (b := 1) hG (by decide)) ?_
        refine Pv.lit rfl ?_
        refine Pv.callVI (as := [.ref 1, .int 0]) (rest := []) (z := F.1 2 0 &&& 255) rfl rfl rfl (f_valueAt (k := 0) (hG.fx (P := fun _ => True) (((FX.rf (P := fun _ => True))).fp trivial)) (by omega)) ?_
        rw [show (F.1 2 0 &&& 255) = Int32.ofNat s from es]
        refine Pv.istore (lo' := [some (.ref 0), some (.int (Int32.ofNat n)), some (.int (Int32.ofNat (n - 1))), some (.int (Int32.ofNat s)), none, none]) rfl rfl ?_
        refine Pv.lit rfl ?_
        refine Pv.istore (lo' := [some (.ref 0), some (.int (Int32.ofNat n)), some (.int (Int32.ofNat (n - 1))), some (.int (Int32.ofNat s)), some (.int 0), none]) rfl rfl ?_
        refine Pv.lit rfl ?_
        refine Pv.istore (lo' := [some (.ref 0), some (.int (Int32.ofNat n)), some (.int (Int32.ofNat (n - 1))), some (.int (Int32.ofNat s)), some (.int 0), some (.int 0)]) rfl rfl ?_
        refine Pv.lp (ι := Nat × Int32) (lof := fun ⟨k, b⟩ => [some (.ref 0), some (.int (Int32.ofNat n)), some (.int (Int32.ofNat (n - 1))), some (.int (Int32.ofNat s)), some (.int b), some (.int (Int32.ofNat k))]) (Ff := fun ⟨k, b⟩ => (fp F 1 1 0)) (P := fun ⟨k, b⟩ => k ≤ t_g T ∧ b = m_bits (fun g => m_wh T (2 * g + s) (fun q => F.1 2 q &&& 255) (n - 2)) id k) ?_ (0, 0) (⟨Nat.zero_le _, rfl⟩)
        rintro N4 hN5 ⟨k, b⟩ hi6 ih7
        refine (show Pv _ _ 62 [some (.ref 0), some (.int (Int32.ofNat n)), some (.int (Int32.ofNat (n - 1))), some (.int (Int32.ofNat s)), some (.int b), some (.int (Int32.ofNat k))] [] (fp F 1 1 0) Q from ?_)
        obtain ⟨hk, hb⟩ := hi6
        refine Pv.iloadS rfl rfl ?_
        refine Pv.aload rfl rfl ?_
        refine Pv.getR (v := .ref t) rfl rfl (ht) ?_
        refine Pv.getI (z := Int32.ofNat (t_g T)) rfl rfl ((fp_ne (Or.inl (by omega))).trans (hT.g)) ?_
        refine Pv.icmp rfl (fun c8 => ?_) (fun c8 => ?_)
        · skip
          replace c8 := (i_le (a := t_g T) (b := k) (by omega) (by omega)).mp (of_decide_eq_true c8)
          refine Pv.iload rfl rfl ?_
          exact Pv.ret rfl (by rw [hQ]; exact ⟨by unfold a_which; rw [if_pos (by omega), hs]; dsimp only; rw [hb, show k = t_g T by omega], rfl⟩)
        · skip
          replace c8 := mt (i_le (a := t_g T) (b := k) (by omega) (by omega)).mpr (of_decide_eq_false c8)
          refine Pv.aload rfl rfl ?_
          refine Pv.iload rfl rfl ?_
          refine Pv.iload rfl rfl ?_
          refine Pv.callI (as := [.int (Int32.ofNat k), .int (Int32.ofNat s)]) (rest := [.ref 0]) (z := Int32.ofNat (2 * k + s)) rfl rfl rfl (f_slotOf (g := k) (s := s)) ?_
          refine Pv.iload rfl rfl ?_
          refine Pv.callVI (as := [.ref 0, .int (Int32.ofNat (2 * k + s)), .int (Int32.ofNat (n - 1))]) (rest := []) (z := b2i (m_wh T (2 * k + s) (fun q => F.1 2 q &&& 255) ((n - 1) - 1))) rfl rfl rfl (o_couldGoSo (n := n - 1) (j := 2 * k + s) (hG.fx (P := fun _ => True) (((FX.rf (P := fun _ => True))).fp trivial)) ht (hT.fx (P := fun q => q = 1) (((FX.rf (P := fun q => q = 1))).fp rfl) (fun q h1 h2 (c : q = 1) => by omega)) (by omega) (by omega) (by omega)) ?_
          refine Pv.if0 rfl (fun c9 => ?_) (fun c9 => ?_)
          · skip
            replace c9 := of_decide_eq_true c9
            replace c9 := b2z.mp c9
            refine Pv.iinc (y := Int32.ofNat (k + 1)) (lo' := [some (.ref 0), some (.int (Int32.ofNat n)), some (.int (Int32.ofNat (n - 1))), some (.int (Int32.ofNat s)), some (.int b), some (.int (Int32.ofNat (k + 1)))]) rfl rfl (i_add k 1) rfl ?_
            refine Pv.goto rfl ?_
            exact ih7 (k + 1, b) (⟨by omega, hb.trans (m_bits_f (by show m_wh T (2 * k + s) _ (n - 2) = _; rw [show n - 2 = n - 1 - 1 by omega]; exact c9)).symm⟩)
          · skip
            replace c9 := of_decide_eq_false c9
            replace c9 := b2n.mp c9
            refine Pv.iload rfl rfl ?_
            refine Pv.lit rfl ?_
            refine Pv.iload rfl rfl ?_
            refine Pv.bin (z := 1 <<< ((Int32.ofNat k) &&& 31)) rfl (rfl) ?_
            refine Pv.bin (z := b ||| (1 <<< ((Int32.ofNat k) &&& 31))) rfl (rfl) ?_
            refine Pv.istore (lo' := [some (.ref 0), some (.int (Int32.ofNat n)), some (.int (Int32.ofNat (n - 1))), some (.int (Int32.ofNat s)), some (.int (b ||| (1 <<< ((Int32.ofNat k) &&& 31)))), some (.int (Int32.ofNat k))]) rfl rfl ?_
            refine Pv.iinc (y := Int32.ofNat (k + 1)) (lo' := [some (.ref 0), some (.int (Int32.ofNat n)), some (.int (Int32.ofNat (n - 1))), some (.int (Int32.ofNat s)), some (.int (b ||| (1 <<< ((Int32.ofNat k) &&& 31)))), some (.int (Int32.ofNat (k + 1)))]) rfl rfl (i_add k 1) rfl ?_
            refine Pv.goto rfl ?_
            exact ih7 (k + 1, b ||| (1 <<< ((Int32.ofNat k) &&& 31))) (⟨by omega, by rw [m_bits_t (f := (fun g => m_wh T (2 * g + s) (fun q => F.1 2 q &&& 255) (n - 2))) (g := id) (k := k) (by show m_wh T (2 * k + s) _ (n - 2) = _; rw [show n - 2 = n - 1 - 1 by omega]; exact c9), hb]; rfl⟩)
      · skip
        replace c3 : decide (b2i (nd 2 (F.1 2 0 &&& 255)).isSome = 0) = true := by simpa using c3
        replace c3 := of_decide_eq_true c3
        replace c3 := b2z.mp c3
        refine Pv.lit rfl ?_
        exact Pv.ret rfl (by rw [hQ]; exact ⟨by unfold a_which; rw [if_pos (by omega), nd_f c3], rfl⟩)
set_option maxRecDepth 100000 in
set_option maxHeartbeats 4000000 in
theorem f_perform0 {F : FW} {p m k n : Nat} {S : Sh} (hS : SHR F p m S) (hk : k < 12) (hn : n < 1000) : Pm Z_X6_perform [.ref p, .int 0, .int (Int32.ofNat k), .int (Int32.ofNat n)] F (fun r F' => r = none ∧ FX (fun q => p ≤ q ∧ q ≤ p + 7) F F' ∧ SHR F' p m (m_do 0 S k (Int32.ofNat n))) := by
  refine Pm.of fun N => ?_
  obtain ⟨Q, hQ⟩ : ∃ Q : Option Value → FW → Prop, Q = (fun r F' => r = none ∧ FX (fun q => p ≤ q ∧ q ≤ p + 7) F F' ∧ SHR F' p m (m_do 0 S k (Int32.ofNat n))) := ⟨_, rfl⟩
  rw [← hQ]
  refine (show Pv (ab_T L_X6_perform) N 0 [some (.ref p), some (.int 0), some (.int (Int32.ofNat k)), some (.int (Int32.ofNat n))] [] F Q from ?_)
  refine Pv.iload rfl rfl ?_
  refine Pv.lit rfl ?_
  refine Pv.icmp rfl (fun c1 => ?_) (fun c1 => ?_)
  · skip
    replace c1 : decide ((0 : Int32) = 3) = false := by simpa using c1
    replace c1 := mt (i_eq (a := 0) (b := 3) (by omega) (by omega)).mpr (of_decide_eq_false c1)
    refine Pv.aload rfl rfl ?_
    refine Pv.getR (v := .ref (p + 1)) rfl rfl (hS.o 0 (by decide)) ?_
    refine Pv.iload rfl rfl ?_
    refine Pv.dup2 rfl ?_
    refine Pv.ald (z := h_s S k) rfl (by rw [i_toNat (by omega)]; exact hS.s _ (by omega)) ?_
    refine Pv.iload rfl rfl ?_
    refine Pv.lit rfl ?_
    refine Pv.icmp rfl (fun c2 => ?_) (fun c2 => ?_)
    · skip
      replace c2 : decide ((0 : Int32) = 1) = false := by simpa using c2
      replace c2 := mt (i_eq (a := 0) (b := 1) (by omega) (by omega)).mpr (of_decide_eq_false c2)
      refine Pv.iload rfl rfl ?_
      refine Pv.un (z := -(Int32.ofNat n)) rfl (rfl) ?_
      refine Pv.bin (z := (h_s S k) + (-(Int32.ofNat n))) rfl (rfl) ?_
      refine Pv.astk (k := k) (z := (h_s S k) + (-(Int32.ofNat n))) rfl (i_toNat (by omega)) (rfl) ?_
      refine Pv.iload rfl rfl ?_
      refine Pv.if0 rfl (fun c3 => ?_) (fun c3 => ?_)
      · skip
        replace c3 : decide ((0 : Int32) = 0) = false := by simpa using c3
        replace c3 := mt (i_eq (a := 0) (b := 0) (by omega) (by omega)).mpr (of_decide_eq_false c3)
        omega
      · skip
        replace c3 : decide ((0 : Int32) = 0) = true := by simpa using c3
        replace c3 := (i_eq (a := 0) (b := 0) (by omega) (by omega)).mp (of_decide_eq_true c3)
        refine Pv.aload rfl rfl ?_
        refine Pv.getR (v := .ref (p + 2)) rfl rfl (hS.o 1 (by decide)) ?_
        refine Pv.iload rfl rfl ?_
        refine Pv.dup2 rfl ?_
        refine Pv.ald (z := h_h S k) rfl (by rw [i_toNat (by omega)]; exact (fp_ne (Or.inl (by omega))).trans (hS.h _ (by omega))) ?_
        refine Pv.iload rfl rfl ?_
        refine Pv.bin (z := (h_h S k) + (Int32.ofNat n)) rfl (rfl) ?_
        refine Pv.astk (k := k) (z := (h_h S k) + (Int32.ofNat n)) rfl (i_toNat (by omega)) (rfl) ?_
        refine Pv.goto rfl ?_
        exact Pv.vret rfl (by rw [hQ]; exact ⟨rfl, (((FX.rf (P := fun q => p ≤ q ∧ q ≤ p + 7))).fp (show p ≤ (p + 1) ∧ (p + 1) ≤ p + 7 by omega)).fp (show p ≤ (p + 2) ∧ (p + 2) ≤ p + 7 by omega), hS.o, hS.db, ((hS.s).up).ne (by omega), ((hS.h).ne (by omega)).up, ((hS.u).ne (by omega)).ne (by omega), ((hS.c).ne (by omega)).ne (by omega), ((hS.a).ne (by omega)).ne (by omega), ((hS.t).ne (by omega)).ne (by omega), ((hS.p).ne (by omega)).ne (by omega), (fp_ne (Or.inl (by omega))).trans ((fp_ne (Or.inl (by omega))).trans (hS.d)), (fp_ne (Or.inl (by omega))).trans ((fp_ne (Or.inl (by omega))).trans (hS.i)), (fp_ne (Or.inl (by omega))).trans ((fp_ne (Or.inl (by omega))).trans (hS.r))⟩)
    · skip
      replace c2 : decide ((0 : Int32) = 1) = true := by simpa using c2
      replace c2 := (i_eq (a := 0) (b := 1) (by omega) (by omega)).mp (of_decide_eq_true c2)
      omega
  · skip
    replace c1 : decide ((0 : Int32) = 3) = true := by simpa using c1
    replace c1 := (i_eq (a := 0) (b := 3) (by omega) (by omega)).mp (of_decide_eq_true c1)
    omega
set_option maxRecDepth 100000 in
set_option maxHeartbeats 4000000 in
theorem f_whyNot0 {F : FW} {p m k n : Nat} {S : Sh} (hS : SHR F p m S) (hk : k < 12) (hn : n < 1000) : Pm Z_X6_whyNot [.ref p, .int 0, .int (Int32.ofNat k), .int (Int32.ofNat n)] F (fun r F' => r = some (.int (m_why 0 S k (Int32.ofNat n))) ∧ F' = F) := by
  refine Pm.of fun N => ?_
  obtain ⟨Q, hQ⟩ : ∃ Q : Option Value → FW → Prop, Q = (fun r F' => r = some (.int (m_why 0 S k (Int32.ofNat n))) ∧ F' = F) := ⟨_, rfl⟩
  rw [← hQ]
  refine (show Pv (ab_T (L_X6_whyNot Z_X6_isAlive)) N 0 [some (.ref p), some (.int 0), some (.int (Int32.ofNat k)), some (.int (Int32.ofNat n))] [] F Q from ?_)
  refine Pv.iload rfl rfl ?_
  refine Pv.tab (t := 28) rfl rfl ?_
  refine Pv.aload rfl rfl ?_
  refine Pv.getR (v := .ref (p + 1)) rfl rfl (hS.o 0 (by decide)) ?_
  refine Pv.iload rfl rfl ?_
  refine Pv.ald (z := h_s S k) rfl (by rw [i_toNat (by omega)]; exact hS.s _ (by omega)) ?_
  refine Pv.iload rfl rfl ?_
  refine Pv.icmp rfl (fun c1 => ?_) (fun c1 => ?_)
  · skip
    replace c1 := of_decide_eq_true c1
    refine Pv.lit rfl ?_
    exact Pv.ret rfl (by rw [hQ]; exact ⟨by unfold m_why; simp [c1], rfl⟩)
  · skip
    replace c1 := of_decide_eq_false c1
    refine Pv.lit rfl ?_
    refine Pv.goto rfl ?_
    exact Pv.ret rfl (by rw [hQ]; exact ⟨by unfold m_why; simp [c1], rfl⟩)
set_option maxRecDepth 100000 in
set_option maxHeartbeats 4000000 in
theorem f_perform1 {F : FW} {p m k n : Nat} {S : Sh} (hS : SHR F p m S) (hk : k < 12) (hn : n < 1000) : Pm Z_X6_perform [.ref p, .int 1, .int (Int32.ofNat k), .int (Int32.ofNat n)] F (fun r F' => r = none ∧ FX (fun q => p ≤ q ∧ q ≤ p + 7) F F' ∧ SHR F' p m (m_do 1 S k (Int32.ofNat n))) := by
  refine Pm.of fun N => ?_
  obtain ⟨Q, hQ⟩ : ∃ Q : Option Value → FW → Prop, Q = (fun r F' => r = none ∧ FX (fun q => p ≤ q ∧ q ≤ p + 7) F F' ∧ SHR F' p m (m_do 1 S k (Int32.ofNat n))) := ⟨_, rfl⟩
  rw [← hQ]
  refine (show Pv (ab_T L_X6_perform) N 0 [some (.ref p), some (.int 1), some (.int (Int32.ofNat k)), some (.int (Int32.ofNat n))] [] F Q from ?_)
  refine Pv.iload rfl rfl ?_
  refine Pv.lit rfl ?_
  refine Pv.icmp rfl (fun c1 => ?_) (fun c1 => ?_)
  · skip
    replace c1 : decide ((1 : Int32) = 3) = false := by simpa using c1
    replace c1 := mt (i_eq (a := 1) (b := 3) (by omega) (by omega)).mpr (of_decide_eq_false c1)
    refine Pv.aload rfl rfl ?_
    refine Pv.getR (v := .ref (p + 1)) rfl rfl (hS.o 0 (by decide)) ?_
    refine Pv.iload rfl rfl ?_
    refine Pv.dup2 rfl ?_
    refine Pv.ald (z := h_s S k) rfl (by rw [i_toNat (by omega)]; exact hS.s _ (by omega)) ?_
    refine Pv.iload rfl rfl ?_
    refine Pv.lit rfl ?_
    refine Pv.icmp rfl (fun c2 => ?_) (fun c2 => ?_)
    · skip
      replace c2 : decide ((1 : Int32) = 1) = false := by simpa using c2
      replace c2 := mt (i_eq (a := 1) (b := 1) (by omega) (by omega)).mpr (of_decide_eq_false c2)
      omega
    · skip
      replace c2 : decide ((1 : Int32) = 1) = true := by simpa using c2
      replace c2 := (i_eq (a := 1) (b := 1) (by omega) (by omega)).mp (of_decide_eq_true c2)
      refine Pv.iload rfl rfl ?_
      refine Pv.goto rfl ?_
      refine Pv.bin (z := (h_s S k) + (Int32.ofNat n)) rfl (rfl) ?_
      refine Pv.astk (k := k) (z := (h_s S k) + (Int32.ofNat n)) rfl (i_toNat (by omega)) (rfl) ?_
      refine Pv.iload rfl rfl ?_
      refine Pv.if0 rfl (fun c3 => ?_) (fun c3 => ?_)
      · skip
        replace c3 : decide ((1 : Int32) = 0) = false := by simpa using c3
        replace c3 := mt (i_eq (a := 1) (b := 0) (by omega) (by omega)).mpr (of_decide_eq_false c3)
        refine Pv.iload rfl rfl ?_
        refine Pv.lit rfl ?_
        refine Pv.icmp rfl (fun c4 => ?_) (fun c4 => ?_)
        · skip
          replace c4 : decide ((1 : Int32) = 1) = false := by simpa using c4
          replace c4 := mt (i_eq (a := 1) (b := 1) (by omega) (by omega)).mpr (of_decide_eq_false c4)
          omega
        · skip
          replace c4 : decide ((1 : Int32) = 1) = true := by simpa using c4
          replace c4 := (i_eq (a := 1) (b := 1) (by omega) (by omega)).mp (of_decide_eq_true c4)
          refine Pv.aload rfl rfl ?_
          refine Pv.getR (v := .ref (p + 2)) rfl rfl (hS.o 1 (by decide)) ?_
          refine Pv.iload rfl rfl ?_
          refine Pv.dup2 rfl ?_
          refine Pv.ald (z := h_h S k) rfl (by rw [i_toNat (by omega)]; exact (fp_ne (Or.inl (by omega))).trans (hS.h _ (by omega))) ?_
          refine Pv.iload rfl rfl ?_
          refine Pv.bin (z := (h_h S k) - (Int32.ofNat n)) rfl (rfl) ?_
          refine Pv.astk (k := k) (z := (h_h S k) - (Int32.ofNat n)) rfl (i_toNat (by omega)) (rfl) ?_
          exact Pv.vret rfl (by rw [hQ]; exact ⟨rfl, (((FX.rf (P := fun q => p ≤ q ∧ q ≤ p + 7))).fp (show p ≤ (p + 1) ∧ (p + 1) ≤ p + 7 by omega)).fp (show p ≤ (p + 2) ∧ (p + 2) ≤ p + 7 by omega), hS.o, hS.db, ((hS.s).up).ne (by omega), ((hS.h).ne (by omega)).up, ((hS.u).ne (by omega)).ne (by omega), ((hS.c).ne (by omega)).ne (by omega), ((hS.a).ne (by omega)).ne (by omega), ((hS.t).ne (by omega)).ne (by omega), ((hS.p).ne (by omega)).ne (by omega), (fp_ne (Or.inl (by omega))).trans ((fp_ne (Or.inl (by omega))).trans (hS.d)), (fp_ne (Or.inl (by omega))).trans ((fp_ne (Or.inl (by omega))).trans (hS.i)), (fp_ne (Or.inl (by omega))).trans ((fp_ne (Or.inl (by omega))).trans (hS.r))⟩)
      · skip
        replace c3 : decide ((1 : Int32) = 0) = true := by simpa using c3
        replace c3 := (i_eq (a := 1) (b := 0) (by omega) (by omega)).mp (of_decide_eq_true c3)
        omega
  · skip
    replace c1 : decide ((1 : Int32) = 3) = true := by simpa using c1
    replace c1 := (i_eq (a := 1) (b := 3) (by omega) (by omega)).mp (of_decide_eq_true c1)
    omega
set_option maxRecDepth 100000 in
set_option maxHeartbeats 4000000 in
theorem f_whyNot1 {F : FW} {p m k n : Nat} {S : Sh} (hS : SHR F p m S) (hk : k < 12) (hn : n < 1000) : Pm Z_X6_whyNot [.ref p, .int 1, .int (Int32.ofNat k), .int (Int32.ofNat n)] F (fun r F' => r = some (.int (m_why 1 S k (Int32.ofNat n))) ∧ F' = F) := by
  refine Pm.of fun N => ?_
  obtain ⟨Q, hQ⟩ : ∃ Q : Option Value → FW → Prop, Q = (fun r F' => r = some (.int (m_why 1 S k (Int32.ofNat n))) ∧ F' = F) := ⟨_, rfl⟩
  rw [← hQ]
  refine (show Pv (ab_T (L_X6_whyNot Z_X6_isAlive)) N 0 [some (.ref p), some (.int 1), some (.int (Int32.ofNat k)), some (.int (Int32.ofNat n))] [] F Q from ?_)
  refine Pv.iload rfl rfl ?_
  refine Pv.tab (t := 44) rfl rfl ?_
  refine Pv.aload rfl rfl ?_
  refine Pv.getR (v := .ref (p + 2)) rfl rfl (hS.o 1 (by decide)) ?_
  refine Pv.iload rfl rfl ?_
  refine Pv.ald (z := h_h S k) rfl (by rw [i_toNat (by omega)]; exact hS.h _ (by omega)) ?_
  refine Pv.iload rfl rfl ?_
  refine Pv.icmp rfl (fun c1 => ?_) (fun c1 => ?_)
  · skip
    replace c1 := of_decide_eq_true c1
    refine Pv.aload rfl rfl ?_
    refine Pv.getR (v := .ref (p + 1)) rfl rfl (hS.o 0 (by decide)) ?_
    refine Pv.iload rfl rfl ?_
    refine Pv.ald (z := h_s S k) rfl (by rw [i_toNat (by omega)]; exact hS.s _ (by omega)) ?_
    refine Pv.iload rfl rfl ?_
    refine Pv.bin (z := (h_s S k) + (Int32.ofNat n)) rfl (rfl) ?_
    refine Pv.lit rfl ?_
    refine Pv.icmp rfl (fun c2 => ?_) (fun c2 => ?_)
    · skip
      replace c2 := of_decide_eq_true c2
      refine Pv.lit rfl ?_
      exact Pv.ret rfl (by rw [hQ]; exact ⟨by show _ = some (Value.int (if h_h S k < Int32.ofNat n then 1 else if 999 < h_s S k + Int32.ofNat n then 2 else 0)); rw [if_neg (Int32.not_lt.mpr c1), if_neg (Int32.not_lt.mpr c2)], rfl⟩)
    · skip
      replace c2 := of_decide_eq_false c2
      refine Pv.lit rfl ?_
      refine Pv.goto rfl ?_
      exact Pv.ret rfl (by rw [hQ]; exact ⟨by show _ = some (Value.int (if h_h S k < Int32.ofNat n then 1 else if 999 < h_s S k + Int32.ofNat n then 2 else 0)); rw [if_neg (Int32.not_lt.mpr c1), if_pos (Int32.not_le.mp c2)], rfl⟩)
  · skip
    replace c1 := of_decide_eq_false c1
    refine Pv.lit rfl ?_
    refine Pv.goto rfl ?_
    exact Pv.ret rfl (by rw [hQ]; exact ⟨by show _ = some (Value.int (if h_h S k < Int32.ofNat n then 1 else if 999 < h_s S k + Int32.ofNat n then 2 else 0)); rw [if_pos (Int32.not_le.mp c1)], rfl⟩)
set_option maxRecDepth 100000 in
set_option maxHeartbeats 4000000 in
theorem f_perform2 {F : FW} {p m k n : Nat} {S : Sh} (hS : SHR F p m S) (hk : k < 12) (hn : n < 1000) : Pm Z_X6_perform [.ref p, .int 2, .int (Int32.ofNat k), .int (Int32.ofNat n)] F (fun r F' => r = none ∧ FX (fun q => p ≤ q ∧ q ≤ p + 7) F F' ∧ SHR F' p m (m_do 2 S k (Int32.ofNat n))) := by
  refine Pm.of fun N => ?_
  obtain ⟨Q, hQ⟩ : ∃ Q : Option Value → FW → Prop, Q = (fun r F' => r = none ∧ FX (fun q => p ≤ q ∧ q ≤ p + 7) F F' ∧ SHR F' p m (m_do 2 S k (Int32.ofNat n))) := ⟨_, rfl⟩
  rw [← hQ]
  refine (show Pv (ab_T L_X6_perform) N 0 [some (.ref p), some (.int 2), some (.int (Int32.ofNat k)), some (.int (Int32.ofNat n))] [] F Q from ?_)
  refine Pv.iload rfl rfl ?_
  refine Pv.lit rfl ?_
  refine Pv.icmp rfl (fun c1 => ?_) (fun c1 => ?_)
  · skip
    replace c1 : decide ((2 : Int32) = 3) = false := by simpa using c1
    replace c1 := mt (i_eq (a := 2) (b := 3) (by omega) (by omega)).mpr (of_decide_eq_false c1)
    refine Pv.aload rfl rfl ?_
    refine Pv.getR (v := .ref (p + 1)) rfl rfl (hS.o 0 (by decide)) ?_
    refine Pv.iload rfl rfl ?_
    refine Pv.dup2 rfl ?_
    refine Pv.ald (z := h_s S k) rfl (by rw [i_toNat (by omega)]; exact hS.s _ (by omega)) ?_
    refine Pv.iload rfl rfl ?_
    refine Pv.lit rfl ?_
    refine Pv.icmp rfl (fun c2 => ?_) (fun c2 => ?_)
    · skip
      replace c2 : decide ((2 : Int32) = 1) = false := by simpa using c2
      replace c2 := mt (i_eq (a := 2) (b := 1) (by omega) (by omega)).mpr (of_decide_eq_false c2)
      refine Pv.iload rfl rfl ?_
      refine Pv.un (z := -(Int32.ofNat n)) rfl (rfl) ?_
      refine Pv.bin (z := (h_s S k) + (-(Int32.ofNat n))) rfl (rfl) ?_
      refine Pv.astk (k := k) (z := (h_s S k) + (-(Int32.ofNat n))) rfl (i_toNat (by omega)) (rfl) ?_
      refine Pv.iload rfl rfl ?_
      refine Pv.if0 rfl (fun c3 => ?_) (fun c3 => ?_)
      · skip
        replace c3 : decide ((2 : Int32) = 0) = false := by simpa using c3
        replace c3 := mt (i_eq (a := 2) (b := 0) (by omega) (by omega)).mpr (of_decide_eq_false c3)
        refine Pv.iload rfl rfl ?_
        refine Pv.lit rfl ?_
        refine Pv.icmp rfl (fun c4 => ?_) (fun c4 => ?_)
        · skip
          replace c4 : decide ((2 : Int32) = 1) = false := by simpa using c4
          replace c4 := mt (i_eq (a := 2) (b := 1) (by omega) (by omega)).mpr (of_decide_eq_false c4)
          exact Pv.vret rfl (by rw [hQ]; exact ⟨rfl, ((FX.rf (P := fun q => p ≤ q ∧ q ≤ p + 7))).fp (show p ≤ (p + 1) ∧ (p + 1) ≤ p + 7 by omega), hS.o, hS.db, (hS.s).up, (hS.h).ne (by omega), (hS.u).ne (by omega), (hS.c).ne (by omega), (hS.a).ne (by omega), (hS.t).ne (by omega), (hS.p).ne (by omega), (fp_ne (Or.inl (by omega))).trans (hS.d), (fp_ne (Or.inl (by omega))).trans (hS.i), (fp_ne (Or.inl (by omega))).trans (hS.r)⟩)
        · skip
          replace c4 : decide ((2 : Int32) = 1) = true := by simpa using c4
          replace c4 := (i_eq (a := 2) (b := 1) (by omega) (by omega)).mp (of_decide_eq_true c4)
          omega
      · skip
        replace c3 : decide ((2 : Int32) = 0) = true := by simpa using c3
        replace c3 := (i_eq (a := 2) (b := 0) (by omega) (by omega)).mp (of_decide_eq_true c3)
        omega
    · skip
      replace c2 : decide ((2 : Int32) = 1) = true := by simpa using c2
      replace c2 := (i_eq (a := 2) (b := 1) (by omega) (by omega)).mp (of_decide_eq_true c2)
      omega
  · skip
    replace c1 : decide ((2 : Int32) = 3) = true := by simpa using c1
    replace c1 := (i_eq (a := 2) (b := 3) (by omega) (by omega)).mp (of_decide_eq_true c1)
    omega
set_option maxRecDepth 100000 in
set_option maxHeartbeats 4000000 in
theorem f_whyNot2 {F : FW} {p m k n : Nat} {S : Sh} (hS : SHR F p m S) (hk : k < 12) (hn : n < 1000) : Pm Z_X6_whyNot [.ref p, .int 2, .int (Int32.ofNat k), .int (Int32.ofNat n)] F (fun r F' => r = some (.int (m_why 2 S k (Int32.ofNat n))) ∧ F' = F) := by
  refine Pm.of fun N => ?_
  obtain ⟨Q, hQ⟩ : ∃ Q : Option Value → FW → Prop, Q = (fun r F' => r = some (.int (m_why 2 S k (Int32.ofNat n))) ∧ F' = F) := ⟨_, rfl⟩
  rw [← hQ]
  refine (show Pv (ab_T (L_X6_whyNot Z_X6_isAlive)) N 0 [some (.ref p), some (.int 2), some (.int (Int32.ofNat k)), some (.int (Int32.ofNat n))] [] F Q from ?_)
  refine Pv.iload rfl rfl ?_
  refine Pv.tab (t := 78) rfl rfl ?_
  refine Pv.aload rfl rfl ?_
  refine Pv.getR (v := .ref (p + 1)) rfl rfl (hS.o 0 (by decide)) ?_
  refine Pv.iload rfl rfl ?_
  refine Pv.ald (z := h_s S k) rfl (by rw [i_toNat (by omega)]; exact hS.s _ (by omega)) ?_
  refine Pv.iload rfl rfl ?_
  refine Pv.icmp rfl (fun c1 => ?_) (fun c1 => ?_)
  · skip
    replace c1 := of_decide_eq_true c1
    refine Pv.lit rfl ?_
    exact Pv.ret rfl (by rw [hQ]; exact ⟨by unfold m_why; simp [c1], rfl⟩)
  · skip
    replace c1 := of_decide_eq_false c1
    refine Pv.lit rfl ?_
    refine Pv.goto rfl ?_
    exact Pv.ret rfl (by rw [hQ]; exact ⟨by unfold m_why; simp [c1], rfl⟩)
set_option maxRecDepth 100000 in
set_option maxHeartbeats 4000000 in
theorem f_perform3 {F : FW} {p m k : Nat} {S : Sh} (hS : SHR F p m S) (hk : k < m) (hm : m ≤ 8) : Pm Z_X6_perform [.ref p, .int 3, .int (Int32.ofNat k), .int 0] F (fun r F' => r = none ∧ FX (fun q => p ≤ q ∧ q ≤ p + 7) F F' ∧ SHR F' p m (m_do 3 S k 0)) := by
  refine Pm.of fun N => ?_
  obtain ⟨Q, hQ⟩ : ∃ Q : Option Value → FW → Prop, Q = (fun r F' => r = none ∧ FX (fun q => p ≤ q ∧ q ≤ p + 7) F F' ∧ SHR F' p m (m_do 3 S k 0)) := ⟨_, rfl⟩
  rw [← hQ]
  refine (show Pv (ab_T L_X6_perform) N 0 [some (.ref p), some (.int 3), some (.int (Int32.ofNat k)), some (.int 0)] [] F Q from ?_)
  refine Pv.iload rfl rfl ?_
  refine Pv.lit rfl ?_
  refine Pv.icmp rfl (fun c1 => ?_) (fun c1 => ?_)
  · skip
    replace c1 : decide ((3 : Int32) = 3) = false := by simpa using c1
    replace c1 := mt (i_eq (a := 3) (b := 3) (by omega) (by omega)).mpr (of_decide_eq_false c1)
    omega
  · skip
    replace c1 : decide ((3 : Int32) = 3) = true := by simpa using c1
    replace c1 := (i_eq (a := 3) (b := 3) (by omega) (by omega)).mp (of_decide_eq_true c1)
    refine Pv.aload rfl rfl ?_
    refine Pv.getR (v := .ref (p + 5)) rfl rfl (hS.o 4 (by decide)) ?_
    refine Pv.iload rfl rfl ?_
    refine Pv.lit rfl ?_
    refine Pv.astk (k := k) (z := (-1)) rfl (i_toNat (by omega)) (rfl) ?_
    exact Pv.vret rfl (by rw [hQ]; exact ⟨rfl, ((FX.rf (P := fun q => p ≤ q ∧ q ≤ p + 7))).fp (show p ≤ (p + 5) ∧ (p + 5) ≤ p + 7 by omega), hS.o, hS.db, (hS.s).ne (by omega), (hS.h).ne (by omega), (hS.u).ne (by omega), (hS.c).ne (by omega), (hS.a).up, (hS.t).ne (by omega), (hS.p).ne (by omega), (fp_ne (Or.inl (by omega))).trans (hS.d), (fp_ne (Or.inl (by omega))).trans (hS.i), (fp_ne (Or.inl (by omega))).trans (hS.r)⟩)
set_option maxRecDepth 100000 in
set_option maxHeartbeats 4000000 in
theorem f_whyNot3 {F : FW} {p m k : Nat} {S : Sh} (hS : SHR F p m S) (hk : k < m) (hm : m ≤ 8) : Pm Z_X6_whyNot [.ref p, .int 3, .int (Int32.ofNat k), .int 0] F (fun r F' => r = some (.int (m_why 3 S k 0)) ∧ F' = F) := by
  refine Pm.of fun N => ?_
  obtain ⟨Q, hQ⟩ : ∃ Q : Option Value → FW → Prop, Q = (fun r F' => r = some (.int (m_why 3 S k 0)) ∧ F' = F) := ⟨_, rfl⟩
  rw [← hQ]
  refine (show Pv (ab_T (L_X6_whyNot Z_X6_isAlive)) N 0 [some (.ref p), some (.int 3), some (.int (Int32.ofNat k)), some (.int 0)] [] F Q from ?_)
  refine Pv.iload rfl rfl ?_
  refine Pv.tab (t := 94) rfl rfl ?_
  refine Pv.aload rfl rfl ?_
  refine Pv.iload rfl rfl ?_
  refine Pv.callVI (as := [.ref p, .int (Int32.ofNat k)]) (rest := []) (z := b2i (m_alive S k)) rfl rfl rfl (f_isAlive (m := k) hS (by omega) (by omega)) ?_
  refine Pv.if0 rfl (fun c1 => ?_) (fun c1 => ?_)
  · skip
    replace c1 := of_decide_eq_true c1
    replace c1 := b2z.mp c1
    refine Pv.lit rfl ?_
    exact Pv.ret rfl (by rw [hQ]; exact ⟨by unfold m_why; simp [c1], rfl⟩)
  · skip
    replace c1 := of_decide_eq_false c1
    replace c1 := b2n.mp c1
    refine Pv.lit rfl ?_
    refine Pv.goto rfl ?_
    exact Pv.ret rfl (by rw [hQ]; exact ⟨by unfold m_why; simp [c1], rfl⟩)
set_option maxRecDepth 100000 in
set_option maxHeartbeats 4000000 in
theorem f_attempt0 {F : FW} {p m k n : Nat} {S : Sh} (hS : SHR F p m S) (hk : k < 12) (hn : n < 1000) : Pm Z_X6_attempt [.ref p, .int 0, .int (Int32.ofNat k), .int (Int32.ofNat n)] F (fun r F' => r = some (.int (m_why 0 S k (Int32.ofNat n))) ∧ FX (fun q => p ≤ q ∧ q ≤ p + 7) F F' ∧ SHR F' p m (m_try 0 S k (Int32.ofNat n))) := by
  refine Pm.of fun N => ?_
  obtain ⟨Q, hQ⟩ : ∃ Q : Option Value → FW → Prop, Q = (fun r F' => r = some (.int (m_why 0 S k (Int32.ofNat n))) ∧ FX (fun q => p ≤ q ∧ q ≤ p + 7) F F' ∧ SHR F' p m (m_try 0 S k (Int32.ofNat n))) := ⟨_, rfl⟩
  rw [← hQ]
  refine (show Pv (ab_T (L_X6_attempt Z_X6_whyNot Z_X6_perform)) N 0 [some (.ref p), some (.int 0), some (.int (Int32.ofNat k)), some (.int (Int32.ofNat n)), none] [] F Q from ?_)
  refine Pv.aload rfl rfl ?_
  refine Pv.iload rfl rfl ?_
  refine Pv.iload rfl rfl ?_
  refine Pv.iload rfl rfl ?_
  refine Pv.callVI (as := [.ref p, .int 0, .int (Int32.ofNat k), .int (Int32.ofNat n)]) (rest := []) (z := m_why 0 S k (Int32.ofNat n)) rfl rfl rfl (f_whyNot0 hS hk hn) ?_
  refine Pv.istore (lo' := [some (.ref p), some (.int 0), some (.int (Int32.ofNat k)), some (.int (Int32.ofNat n)), some (.int (m_why 0 S k (Int32.ofNat n)))]) rfl rfl ?_
  refine Pv.iload rfl rfl ?_
  refine Pv.if0 rfl (fun c1 => ?_) (fun c1 => ?_)
  · skip
    replace c1 : decide (m_why 0 S k (Int32.ofNat n) = 0) = false := by simpa using c1
    replace c1 := of_decide_eq_false c1
    refine Pv.iload rfl rfl ?_
    exact Pv.ret rfl (by rw [hQ]; exact ⟨rfl, FX.rf, by unfold m_try; rw [if_neg c1]; exact hS⟩)
  · skip
    replace c1 : decide (m_why 0 S k (Int32.ofNat n) = 0) = true := by simpa using c1
    replace c1 := of_decide_eq_true c1
    refine Pv.aload rfl rfl ?_
    refine Pv.iload rfl rfl ?_
    refine Pv.iload rfl rfl ?_
    refine Pv.iload rfl rfl ?_
    refine Pv.callV (as := [.ref p, .int 0, .int (Int32.ofNat k), .int (Int32.ofNat n)]) (rest := []) rfl rfl rfl (f_perform0 hS hk hn) ?_
    rintro _ G2 ⟨rfl, x3, sr5⟩
    have hx4 := FX.tr (P := fun q => p ≤ q ∧ q ≤ p + 7) FX.rf (x3.wd (fun q (c : p ≤ q ∧ q ≤ p + 7) => (show p ≤ q ∧ q ≤ p + 7 by omega)))
    refine (show Pv _ _ 21 [some (.ref p), some (.int 0), some (.int (Int32.ofNat k)), some (.int (Int32.ofNat n)), some (.int (m_why 0 S k (Int32.ofNat n)))] [] G2 Q from ?_)
    refine Pv.iload rfl rfl ?_
    exact Pv.ret rfl (by rw [hQ]; exact ⟨rfl, hx4, by unfold m_try; rw [if_pos c1]; exact sr5⟩)
set_option maxRecDepth 100000 in
set_option maxHeartbeats 4000000 in
theorem f_attempt1 {F : FW} {p m k n : Nat} {S : Sh} (hS : SHR F p m S) (hk : k < 12) (hn : n < 1000) : Pm Z_X6_attempt [.ref p, .int 1, .int (Int32.ofNat k), .int (Int32.ofNat n)] F (fun r F' => r = some (.int (m_why 1 S k (Int32.ofNat n))) ∧ FX (fun q => p ≤ q ∧ q ≤ p + 7) F F' ∧ SHR F' p m (m_try 1 S k (Int32.ofNat n))) := by
  refine Pm.of fun N => ?_
  obtain ⟨Q, hQ⟩ : ∃ Q : Option Value → FW → Prop, Q = (fun r F' => r = some (.int (m_why 1 S k (Int32.ofNat n))) ∧ FX (fun q => p ≤ q ∧ q ≤ p + 7) F F' ∧ SHR F' p m (m_try 1 S k (Int32.ofNat n))) := ⟨_, rfl⟩
  rw [← hQ]
  refine (show Pv (ab_T (L_X6_attempt Z_X6_whyNot Z_X6_perform)) N 0 [some (.ref p), some (.int 1), some (.int (Int32.ofNat k)), some (.int (Int32.ofNat n)), none] [] F Q from ?_)
  refine Pv.aload rfl rfl ?_
  refine Pv.iload rfl rfl ?_
  refine Pv.iload rfl rfl ?_
  refine Pv.iload rfl rfl ?_
  refine Pv.callVI (as := [.ref p, .int 1, .int (Int32.ofNat k), .int (Int32.ofNat n)]) (rest := []) (z := m_why 1 S k (Int32.ofNat n)) rfl rfl rfl (f_whyNot1 hS hk hn) ?_
  refine Pv.istore (lo' := [some (.ref p), some (.int 1), some (.int (Int32.ofNat k)), some (.int (Int32.ofNat n)), some (.int (m_why 1 S k (Int32.ofNat n)))]) rfl rfl ?_
  refine Pv.iload rfl rfl ?_
  refine Pv.if0 rfl (fun c1 => ?_) (fun c1 => ?_)
  · skip
    replace c1 : decide (m_why 1 S k (Int32.ofNat n) = 0) = false := by simpa using c1
    replace c1 := of_decide_eq_false c1
    refine Pv.iload rfl rfl ?_
    exact Pv.ret rfl (by rw [hQ]; exact ⟨rfl, FX.rf, by unfold m_try; rw [if_neg c1]; exact hS⟩)
  · skip
    replace c1 : decide (m_why 1 S k (Int32.ofNat n) = 0) = true := by simpa using c1
    replace c1 := of_decide_eq_true c1
    refine Pv.aload rfl rfl ?_
    refine Pv.iload rfl rfl ?_
    refine Pv.iload rfl rfl ?_
    refine Pv.iload rfl rfl ?_
    refine Pv.callV (as := [.ref p, .int 1, .int (Int32.ofNat k), .int (Int32.ofNat n)]) (rest := []) rfl rfl rfl (f_perform1 hS hk hn) ?_
    rintro _ G2 ⟨rfl, x3, sr5⟩
    have hx4 := FX.tr (P := fun q => p ≤ q ∧ q ≤ p + 7) FX.rf (x3.wd (fun q (c : p ≤ q ∧ q ≤ p + 7) => (show p ≤ q ∧ q ≤ p + 7 by omega)))
    refine (show Pv _ _ 21 [some (.ref p), some (.int 1), some (.int (Int32.ofNat k)), some (.int (Int32.ofNat n)), some (.int (m_why 1 S k (Int32.ofNat n)))] [] G2 Q from ?_)
    refine Pv.iload rfl rfl ?_
    exact Pv.ret rfl (by rw [hQ]; exact ⟨rfl, hx4, by unfold m_try; rw [if_pos c1]; exact sr5⟩)
set_option maxRecDepth 100000 in
set_option maxHeartbeats 4000000 in
theorem f_attempt2 {F : FW} {p m k n : Nat} {S : Sh} (hS : SHR F p m S) (hk : k < 12) (hn : n < 1000) : Pm Z_X6_attempt [.ref p, .int 2, .int (Int32.ofNat k), .int (Int32.ofNat n)] F (fun r F' => r = some (.int (m_why 2 S k (Int32.ofNat n))) ∧ FX (fun q => p ≤ q ∧ q ≤ p + 7) F F' ∧ SHR F' p m (m_try 2 S k (Int32.ofNat n))) := by
  refine Pm.of fun N => ?_
  obtain ⟨Q, hQ⟩ : ∃ Q : Option Value → FW → Prop, Q = (fun r F' => r = some (.int (m_why 2 S k (Int32.ofNat n))) ∧ FX (fun q => p ≤ q ∧ q ≤ p + 7) F F' ∧ SHR F' p m (m_try 2 S k (Int32.ofNat n))) := ⟨_, rfl⟩
  rw [← hQ]
  refine (show Pv (ab_T (L_X6_attempt Z_X6_whyNot Z_X6_perform)) N 0 [some (.ref p), some (.int 2), some (.int (Int32.ofNat k)), some (.int (Int32.ofNat n)), none] [] F Q from ?_)
  refine Pv.aload rfl rfl ?_
  refine Pv.iload rfl rfl ?_
  refine Pv.iload rfl rfl ?_
  refine Pv.iload rfl rfl ?_
  refine Pv.callVI (as := [.ref p, .int 2, .int (Int32.ofNat k), .int (Int32.ofNat n)]) (rest := []) (z := m_why 2 S k (Int32.ofNat n)) rfl rfl rfl (f_whyNot2 hS hk hn) ?_
  refine Pv.istore (lo' := [some (.ref p), some (.int 2), some (.int (Int32.ofNat k)), some (.int (Int32.ofNat n)), some (.int (m_why 2 S k (Int32.ofNat n)))]) rfl rfl ?_
  refine Pv.iload rfl rfl ?_
  refine Pv.if0 rfl (fun c1 => ?_) (fun c1 => ?_)
  · skip
    replace c1 : decide (m_why 2 S k (Int32.ofNat n) = 0) = false := by simpa using c1
    replace c1 := of_decide_eq_false c1
    refine Pv.iload rfl rfl ?_
    exact Pv.ret rfl (by rw [hQ]; exact ⟨rfl, FX.rf, by unfold m_try; rw [if_neg c1]; exact hS⟩)
  · skip
    replace c1 : decide (m_why 2 S k (Int32.ofNat n) = 0) = true := by simpa using c1
    replace c1 := of_decide_eq_true c1
    refine Pv.aload rfl rfl ?_
    refine Pv.iload rfl rfl ?_
    refine Pv.iload rfl rfl ?_
    refine Pv.iload rfl rfl ?_
    refine Pv.callV (as := [.ref p, .int 2, .int (Int32.ofNat k), .int (Int32.ofNat n)]) (rest := []) rfl rfl rfl (f_perform2 hS hk hn) ?_
    rintro _ G2 ⟨rfl, x3, sr5⟩
    have hx4 := FX.tr (P := fun q => p ≤ q ∧ q ≤ p + 7) FX.rf (x3.wd (fun q (c : p ≤ q ∧ q ≤ p + 7) => (show p ≤ q ∧ q ≤ p + 7 by omega)))
    refine (show Pv _ _ 21 [some (.ref p), some (.int 2), some (.int (Int32.ofNat k)), some (.int (Int32.ofNat n)), some (.int (m_why 2 S k (Int32.ofNat n)))] [] G2 Q from ?_)
    refine Pv.iload rfl rfl ?_
    exact Pv.ret rfl (by rw [hQ]; exact ⟨rfl, hx4, by unfold m_try; rw [if_pos c1]; exact sr5⟩)
set_option maxRecDepth 100000 in
set_option maxHeartbeats 4000000 in
theorem f_attempt3 {F : FW} {p m k : Nat} {S : Sh} (hS : SHR F p m S) (hk : k < m) (hm : m ≤ 8) : Pm Z_X6_attempt [.ref p, .int 3, .int (Int32.ofNat k), .int 0] F (fun r F' => r = some (.int (m_why 3 S k 0)) ∧ FX (fun q => p ≤ q ∧ q ≤ p + 7) F F' ∧ SHR F' p m (m_try 3 S k 0)) := by
  refine Pm.of fun N => ?_
  obtain ⟨Q, hQ⟩ : ∃ Q : Option Value → FW → Prop, Q = (fun r F' => r = some (.int (m_why 3 S k 0)) ∧ FX (fun q => p ≤ q ∧ q ≤ p + 7) F F' ∧ SHR F' p m (m_try 3 S k 0)) := ⟨_, rfl⟩
  rw [← hQ]
  refine (show Pv (ab_T (L_X6_attempt Z_X6_whyNot Z_X6_perform)) N 0 [some (.ref p), some (.int 3), some (.int (Int32.ofNat k)), some (.int 0), none] [] F Q from ?_)
  refine Pv.aload rfl rfl ?_
  refine Pv.iload rfl rfl ?_
  refine Pv.iload rfl rfl ?_
  refine Pv.iload rfl rfl ?_
  refine Pv.callVI (as := [.ref p, .int 3, .int (Int32.ofNat k), .int 0]) (rest := []) (z := m_why 3 S k 0) rfl rfl rfl (f_whyNot3 hS hk hm) ?_
  refine Pv.istore (lo' := [some (.ref p), some (.int 3), some (.int (Int32.ofNat k)), some (.int 0), some (.int (m_why 3 S k 0))]) rfl rfl ?_
  refine Pv.iload rfl rfl ?_
  refine Pv.if0 rfl (fun c1 => ?_) (fun c1 => ?_)
  · skip
    replace c1 : decide (m_why 3 S k 0 = 0) = false := by simpa using c1
    replace c1 := of_decide_eq_false c1
    refine Pv.iload rfl rfl ?_
    exact Pv.ret rfl (by rw [hQ]; exact ⟨rfl, FX.rf, by unfold m_try; rw [if_neg c1]; exact hS⟩)
  · skip
    replace c1 : decide (m_why 3 S k 0 = 0) = true := by simpa using c1
    replace c1 := of_decide_eq_true c1
    refine Pv.aload rfl rfl ?_
    refine Pv.iload rfl rfl ?_
    refine Pv.iload rfl rfl ?_
    refine Pv.iload rfl rfl ?_
    refine Pv.callV (as := [.ref p, .int 3, .int (Int32.ofNat k), .int 0]) (rest := []) rfl rfl rfl (f_perform3 hS hk hm) ?_
    rintro _ G2 ⟨rfl, x3, sr5⟩
    have hx4 := FX.tr (P := fun q => p ≤ q ∧ q ≤ p + 7) FX.rf (x3.wd (fun q (c : p ≤ q ∧ q ≤ p + 7) => (show p ≤ q ∧ q ≤ p + 7 by omega)))
    refine (show Pv _ _ 21 [some (.ref p), some (.int 3), some (.int (Int32.ofNat k)), some (.int 0), some (.int (m_why 3 S k 0))] [] G2 Q from ?_)
    refine Pv.iload rfl rfl ?_
    exact Pv.ret rfl (by rw [hQ]; exact ⟨rfl, hx4, by unfold m_try; rw [if_pos c1]; exact sr5⟩)
set_option maxRecDepth 100000 in
set_option maxHeartbeats 4000000 in
theorem f_drawOf {F : FW} {x : Int32} {n : Nat} (hx : F.1 40 0 = x) (hn : 0 < n) (hn2 : n < 1000) : Pm Z_X0_drawOf [.ref 40, .int (Int32.ofNat n)] F (fun r F' => r = some (.int (Int32.ofNat (dr (m_nx x) n))) ∧ F' = fp F 40 0 (m_nx x)) := by
  refine Pm.of fun N => ?_
  obtain ⟨Q, hQ⟩ : ∃ Q : Option Value → FW → Prop, Q = (fun r F' => r = some (.int (Int32.ofNat (dr (m_nx x) n))) ∧ F' = fp F 40 0 (m_nx x)) := ⟨_, rfl⟩
  rw [← hQ]
  refine (show Pv (ab_T L_X0_drawOf) N 0 [some (.ref 40), some (.int (Int32.ofNat n))] [] F Q from ?_)
  refine Pv.aload rfl rfl ?_
  refine Pv.aload rfl rfl ?_
  refine Pv.getI (z := x) rfl rfl (hx) ?_
  refine Pv.lit rfl ?_
  refine Pv.bin (z := x * 1103515245) rfl (rfl) ?_
  refine Pv.lit rfl ?_
  refine Pv.bin (z := m_nx x) rfl (rfl) ?_
  refine Pv.putI rfl rfl ?_
  refine Pv.iload rfl rfl ?_
  refine Pv.if0 rfl (fun c1 => ?_) (fun c1 => ?_)
  · skip
    replace c1 := (i_le (a := n) (b := 0) (by omega) (by omega)).mp (of_decide_eq_true c1)
    omega
  · skip
    replace c1 := mt (i_le (a := n) (b := 0) (by omega) (by omega)).mpr (of_decide_eq_false c1)
    refine Pv.aload rfl rfl ?_
    refine Pv.getI (z := m_nx x) rfl rfl (fp_eq) ?_
    refine Pv.lit rfl ?_
    refine Pv.bin (z := m_ush (m_nx x)) rfl (rfl) ?_
    refine Pv.iload rfl rfl ?_
    refine Pv.irem (z := Int32.ofNat (dr (m_nx x) n)) rfl (dr_rem hn hn2) ?_
    refine Pv.goto rfl ?_
    exact Pv.ret rfl (by rw [hQ]; exact ⟨rfl, rfl⟩)
