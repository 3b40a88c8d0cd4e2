set_option maxRecDepth 100000 in
set_option maxHeartbeats 4000000 in
theorem f_allMissed {F : FW} {t p : Nat} {T : St} {S : Sh} (hT : TR F t T) (hS : SHR F p (t_m T) S) : Pm Z_X6_allMissed [.ref p, .ref t] F (fun r F' => r = some (.int (m_missed T S)) ∧ F' = F) := by
  refine Pm.of fun N => ?_
  obtain ⟨Q, hQ⟩ : ∃ Q : Option Value → FW → Prop, Q = (fun r F' => r = some (.int (m_missed T S)) ∧ F' = F) := ⟨_, rfl⟩
  rw [← hQ]
  have b3 := hT.mb
  have b4 := hT.nb
  have b5 := hT.gb
  refine (show Pv (ab_T (L_X6_allMissed Z_X6_isFelt)) N 0 [some (.ref p), some (.ref t), none, none] [] F Q from ?_)
  refine Pv.lit rfl ?_
  refine Pv.istore (lo' := [some (.ref p), some (.ref t), some (.int 0), none]) rfl rfl ?_
  refine Pv.lit rfl ?_
  refine Pv.istore (lo' := [some (.ref p), some (.ref t), some (.int 0), some (.int 0)]) rfl rfl ?_
  refine Pv.lp (ι := Nat × Int32) (lof := fun ⟨k, b⟩ => [some (.ref p), some (.ref t), some (.int b), some (.int (Int32.ofNat k))]) (Ff := fun ⟨k, b⟩ => F) (P := fun ⟨k, b⟩ => k ≤ t_n T ∧ b = m_bits (m_felt T S) (t_d T) k) ?_ (0, 0) (⟨Nat.zero_le _, rfl⟩)
  rintro N1 hN2 ⟨k, b⟩ hi3 ih4
  refine (show Pv _ _ 4 [some (.ref p), some (.ref t), some (.int b), some (.int (Int32.ofNat k))] [] F Q from ?_)
  obtain ⟨hk, hb⟩ := hi3
  refine Pv.iloadS rfl rfl ?_
  refine Pv.aload rfl rfl ?_
  refine Pv.getI (z := Int32.ofNat (t_n T)) rfl rfl (hT.n) ?_
  refine Pv.icmp rfl (fun c5 => ?_) (fun c5 => ?_)
  · skip
    replace c5 := (i_le (a := t_n T) (b := k) (by omega) (by omega)).mp (of_decide_eq_true c5)
    refine Pv.iload rfl rfl ?_
    exact Pv.ret rfl (by rw [hQ]; exact ⟨by rw [hb, show k = t_n T by omega]; rfl, rfl⟩)
  · skip
    replace c5 := mt (i_le (a := t_n T) (b := k) (by omega) (by omega)).mpr (of_decide_eq_false c5)
    have b1 := hT.rb (show k < t_n T by omega)
    have b2 := hT.db (show k < t_n T by omega)
    refine Pv.aload rfl rfl ?_
    refine Pv.aload rfl rfl ?_
    refine Pv.iload rfl rfl ?_
    refine Pv.callVI (as := [.ref p, .ref t, .int (Int32.ofNat k)]) (rest := []) (z := b2i (m_felt T S k)) rfl rfl rfl (f_isFelt (k := k) hT hS (by omega)) ?_
    refine Pv.if0 rfl (fun c6 => ?_) (fun c6 => ?_)
    · skip
      replace c6 := of_decide_eq_true c6
      replace c6 := b2z.mp c6
      refine Pv.iinc (y := Int32.ofNat (k + 1)) (lo' := [some (.ref p), some (.ref t), some (.int b), some (.int (Int32.ofNat (k + 1)))]) rfl rfl (i_add k 1) rfl ?_
      refine Pv.goto rfl ?_
      exact ih4 (k + 1, b) (⟨by omega, hb.trans (m_bits_f (by simp [c5, c6])).symm⟩)
    · skip
      replace c6 := of_decide_eq_false c6
      replace c6 := b2n.mp c6
      refine Pv.iload rfl rfl ?_
      refine Pv.lit rfl ?_
      refine Pv.aload rfl rfl ?_
      refine Pv.getR (v := .ref (t + 6)) rfl rfl (hT.o 5 (by decide)) ?_
      refine Pv.iload rfl rfl ?_
      refine Pv.ald (z := Int32.ofNat (t_d T k)) rfl (by rw [i_toNat (by omega)]; exact hT.d _ (by omega)) ?_
      refine Pv.bin (z := 1 <<< ((Int32.ofNat (t_d T k)) &&& 31)) rfl (rfl) ?_
      refine Pv.bin (z := b ||| (1 <<< ((Int32.ofNat (t_d T k)) &&& 31))) rfl (rfl) ?_
      refine Pv.istore (lo' := [some (.ref p), some (.ref t), some (.int (b ||| (1 <<< ((Int32.ofNat (t_d T k)) &&& 31)))), some (.int (Int32.ofNat k))]) rfl rfl ?_
      refine Pv.iinc (y := Int32.ofNat (k + 1)) (lo' := [some (.ref p), some (.ref t), some (.int (b ||| (1 <<< ((Int32.ofNat (t_d T k)) &&& 31)))), some (.int (Int32.ofNat (k + 1)))]) rfl rfl (i_add k 1) rfl ?_
      refine Pv.goto rfl ?_
      exact ih4 (k + 1, b ||| (1 <<< ((Int32.ofNat (t_d T k)) &&& 31))) (⟨by omega, by rw [m_bits_t (f := m_felt T S) (g := t_d T) (k := k) (by simp [c5, c6]), hb]; try rfl⟩)
set_option maxRecDepth 100000 in
set_option maxHeartbeats 4000000 in
theorem f_missersOf {F : FW} {t p m : Nat} {T : St} {S : Sh} (hT : TR F t T) (hS : SHR F p (t_m T) S) (hm : m < 8) : Pm Z_X6_missersOf [.ref p, .ref t, .int (Int32.ofNat m)] F (fun r F' => r = some (.int (m_missers T S m)) ∧ F' = F) := by
  refine Pm.of fun N => ?_
  obtain ⟨Q, hQ⟩ : ∃ Q : Option Value → FW → Prop, Q = (fun r F' => r = some (.int (m_missers T S m)) ∧ F' = F) := ⟨_, rfl⟩
  rw [← hQ]
  have b3 := hT.mb
  have b4 := hT.nb
  have b5 := hT.gb
  refine (show Pv (ab_T (L_X6_missersOf Z_X6_isFelt)) N 0 [some (.ref p), some (.ref t), some (.int (Int32.ofNat m)), none, none] [] F Q from ?_)
  refine Pv.lit rfl ?_
  refine Pv.istore (lo' := [some (.ref p), some (.ref t), some (.int (Int32.ofNat m)), some (.int 0), none]) rfl rfl ?_
  refine Pv.lit rfl ?_
  refine Pv.istore (lo' := [some (.ref p), some (.ref t), some (.int (Int32.ofNat m)), some (.int 0), some (.int 0)]) rfl rfl ?_
  refine Pv.lp (ι := Nat × Int32) (lof := fun ⟨k, b⟩ => [some (.ref p), some (.ref t), some (.int (Int32.ofNat m)), some (.int b), some (.int (Int32.ofNat k))]) (Ff := fun ⟨k, b⟩ => F) (P := fun ⟨k, b⟩ => k ≤ t_n T ∧ b = m_bits ((fun k => decide (t_d T k = m) && m_felt T S k)) (t_r T) k) ?_ (0, 0) (⟨Nat.zero_le _, rfl⟩)
  rintro N1 hN2 ⟨k, b⟩ hi3 ih4
  refine (show Pv _ _ 5 [some (.ref p), some (.ref t), some (.int (Int32.ofNat m)), some (.int b), some (.int (Int32.ofNat k))] [] F Q from ?_)
  obtain ⟨hk, hb⟩ := hi3
  refine Pv.iloadS rfl rfl ?_
  refine Pv.aload rfl rfl ?_
  refine Pv.getI (z := Int32.ofNat (t_n T)) rfl rfl (hT.n) ?_
  refine Pv.icmp rfl (fun c5 => ?_) (fun c5 => ?_)
  · skip
    replace c5 := (i_le (a := t_n T) (b := k) (by omega) (by omega)).mp (of_decide_eq_true c5)
    refine Pv.iload rfl rfl ?_
    exact Pv.ret rfl (by rw [hQ]; exact ⟨by rw [hb, show k = t_n T by omega]; rfl, rfl⟩)
  · skip
    replace c5 := mt (i_le (a := t_n T) (b := k) (by omega) (by omega)).mpr (of_decide_eq_false c5)
    have b1 := hT.rb (show k < t_n T by omega)
    have b2 := hT.db (show k < t_n T by omega)
    refine Pv.aload rfl rfl ?_
    refine Pv.getR (v := .ref (t + 6)) rfl rfl (hT.o 5 (by decide)) ?_
    refine Pv.iload rfl rfl ?_
    refine Pv.ald (z := Int32.ofNat (t_d T k)) rfl (by rw [i_toNat (by omega)]; exact hT.d _ (by omega)) ?_
    refine Pv.iload rfl rfl ?_
    refine Pv.icmp rfl (fun c6 => ?_) (fun c6 => ?_)
    · skip
      replace c6 : decide (Int32.ofNat (t_d T k) = Int32.ofNat m) = false := by simpa using c6
      replace c6 := mt (i_eq (a := t_d T k) (b := m) (by omega) (by omega)).mpr (of_decide_eq_false c6)
      refine Pv.iinc (y := Int32.ofNat (k + 1)) (lo' := [some (.ref p), some (.ref t), some (.int (Int32.ofNat m)), some (.int b), some (.int (Int32.ofNat (k + 1)))]) rfl rfl (i_add k 1) rfl ?_
      refine Pv.goto rfl ?_
      exact ih4 (k + 1, b) (⟨by omega, hb.trans (m_bits_f (by simp [c5, c6])).symm⟩)
    · skip
      replace c6 : decide (Int32.ofNat (t_d T k) = Int32.ofNat m) = true := by simpa using c6
      replace c6 := (i_eq (a := t_d T k) (b := m) (by omega) (by omega)).mp (of_decide_eq_true c6)
      refine Pv.aload rfl rfl ?_
      refine Pv.aload rfl rfl ?_
      refine Pv.iload rfl rfl ?_
      refine Pv.callVI (as := [.ref p, .ref t, .int (Int32.ofNat k)]) (rest := []) (z := b2i (m_felt T S k)) rfl rfl rfl (f_isFelt (k := k) hT hS (by omega)) ?_
      refine Pv.if0 rfl (fun c7 => ?_) (fun c7 => ?_)
      · skip
        replace c7 := of_decide_eq_true c7
        replace c7 := b2z.mp c7
        refine Pv.iinc (y := Int32.ofNat (k + 1)) (lo' := [some (.ref p), some (.ref t), some (.int (Int32.ofNat m)), some (.int b), some (.int (Int32.ofNat (k + 1)))]) rfl rfl (i_add k 1) rfl ?_
        refine Pv.goto rfl ?_
        exact ih4 (k + 1, b) (⟨by omega, hb.trans (m_bits_f (by simp [c5, c6, c7])).symm⟩)
      · skip
        replace c7 := of_decide_eq_false c7
        replace c7 := b2n.mp c7
        refine Pv.iload rfl rfl ?_
        refine Pv.lit rfl ?_
        refine Pv.aload rfl rfl ?_
        refine Pv.getR (v := .ref (t + 5)) rfl rfl (hT.o 4 (by decide)) ?_
        refine Pv.iload rfl rfl ?_
        refine Pv.ald (z := Int32.ofNat (t_r T k)) rfl (by rw [i_toNat (by omega)]; exact hT.r _ (by omega)) ?_
        refine Pv.bin (z := 1 <<< ((Int32.ofNat (t_r T k)) &&& 31)) rfl (rfl) ?_
        refine Pv.bin (z := b ||| (1 <<< ((Int32.ofNat (t_r T k)) &&& 31))) rfl (rfl) ?_
        refine Pv.istore (lo' := [some (.ref p), some (.ref t), some (.int (Int32.ofNat m)), some (.int (b ||| (1 <<< ((Int32.ofNat (t_r T k)) &&& 31)))), some (.int (Int32.ofNat k))]) rfl rfl ?_
        refine Pv.iinc (y := Int32.ofNat (k + 1)) (lo' := [some (.ref p), some (.ref t), some (.int (Int32.ofNat m)), some (.int (b ||| (1 <<< ((Int32.ofNat (t_r T k)) &&& 31)))), some (.int (Int32.ofNat (k + 1)))]) rfl rfl (i_add k 1) rfl ?_
        refine Pv.goto rfl ?_
        exact ih4 (k + 1, b ||| (1 <<< ((Int32.ofNat (t_r T k)) &&& 31))) (⟨by omega, by rw [m_bits_t (f := (fun k => decide (t_d T k = m) && m_felt T S k)) (g := t_r T) (k := k) (by simp [c5, c6, c7]), hb]; try rfl⟩)
set_option maxRecDepth 100000 in
set_option maxHeartbeats 4000000 in
theorem f_missedBy {F : FW} {t p m : Nat} {T : St} {S : Sh} (hT : TR F t T) (hS : SHR F p (t_m T) S) (hm : m < 8) : Pm Z_X6_missedBy [.ref p, .ref t, .int (Int32.ofNat m)] F (fun r F' => r = some (.int (m_misses T S m)) ∧ F' = F) := by
  refine Pm.of fun N => ?_
  obtain ⟨Q, hQ⟩ : ∃ Q : Option Value → FW → Prop, Q = (fun r F' => r = some (.int (m_misses T S m)) ∧ F' = F) := ⟨_, rfl⟩
  rw [← hQ]
  have b3 := hT.mb
  have b4 := hT.nb
  have b5 := hT.gb
  refine (show Pv (ab_T (L_X6_missedBy Z_X6_isFelt)) N 0 [some (.ref p), some (.ref t), some (.int (Int32.ofNat m)), none, none] [] F Q from ?_)
  refine Pv.lit rfl ?_
  refine Pv.istore (lo' := [some (.ref p), some (.ref t), some (.int (Int32.ofNat m)), some (.int 0), none]) rfl rfl ?_
  refine Pv.lit rfl ?_
  refine Pv.istore (lo' := [some (.ref p), some (.ref t), some (.int (Int32.ofNat m)), some (.int 0), some (.int 0)]) rfl rfl ?_
  refine Pv.lp (ι := Nat × Int32) (lof := fun ⟨k, b⟩ => [some (.ref p), some (.ref t), some (.int (Int32.ofNat m)), some (.int b), some (.int (Int32.ofNat k))]) (Ff := fun ⟨k, b⟩ => F) (P := fun ⟨k, b⟩ => k ≤ t_n T ∧ b = m_bits ((fun k => decide (t_r T k = m) && m_felt T S k)) (t_d T) k) ?_ (0, 0) (⟨Nat.zero_le _, rfl⟩)
  rintro N1 hN2 ⟨k, b⟩ hi3 ih4
  refine (show Pv _ _ 5 [some (.ref p), some (.ref t), some (.int (Int32.ofNat m)), some (.int b), some (.int (Int32.ofNat k))] [] F Q from ?_)
  obtain ⟨hk, hb⟩ := hi3
  refine Pv.iloadS rfl rfl ?_
  refine Pv.aload rfl rfl ?_
  refine Pv.getI (z := Int32.ofNat (t_n T)) rfl rfl (hT.n) ?_
  refine Pv.icmp rfl (fun c5 => ?_) (fun c5 => ?_)
  · skip
    replace c5 := (i_le (a := t_n T) (b := k) (by omega) (by omega)).mp (of_decide_eq_true c5)
    refine Pv.iload rfl rfl ?_
    exact Pv.ret rfl (by rw [hQ]; exact ⟨by rw [hb, show k = t_n T by omega]; rfl, rfl⟩)
  · skip
    replace c5 := mt (i_le (a := t_n T) (b := k) (by omega) (by omega)).mpr (of_decide_eq_false c5)
    have b1 := hT.rb (show k < t_n T by omega)
    have b2 := hT.db (show k < t_n T by omega)
    refine Pv.aload rfl rfl ?_
    refine Pv.getR (v := .ref (t + 5)) rfl rfl (hT.o 4 (by decide)) ?_
    refine Pv.iload rfl rfl ?_
    refine Pv.ald (z := Int32.ofNat (t_r T k)) rfl (by rw [i_toNat (by omega)]; exact hT.r _ (by omega)) ?_
    refine Pv.iload rfl rfl ?_
    refine Pv.icmp rfl (fun c6 => ?_) (fun c6 => ?_)
    · skip
      replace c6 : decide (Int32.ofNat (t_r T k) = Int32.ofNat m) = false := by simpa using c6
      replace c6 := mt (i_eq (a := t_r T k) (b := m) (by omega) (by omega)).mpr (of_decide_eq_false c6)
      refine Pv.iinc (y := Int32.ofNat (k + 1)) (lo' := [some (.ref p), some (.ref t), some (.int (Int32.ofNat m)), some (.int b), some (.int (Int32.ofNat (k + 1)))]) rfl rfl (i_add k 1) rfl ?_
      refine Pv.goto rfl ?_
      exact ih4 (k + 1, b) (⟨by omega, hb.trans (m_bits_f (by simp [c5, c6])).symm⟩)
    · skip
      replace c6 : decide (Int32.ofNat (t_r T k) = Int32.ofNat m) = true := by simpa using c6
      replace c6 := (i_eq (a := t_r T k) (b := m) (by omega) (by omega)).mp (of_decide_eq_true c6)
      refine Pv.aload rfl rfl ?_
      refine Pv.aload rfl rfl ?_
      refine Pv.iload rfl rfl ?_
      refine Pv.callVI (as := [.ref p, .ref t, .int (Int32.ofNat k)]) (rest := []) (z := b2i (m_felt T S k)) rfl rfl rfl (f_isFelt (k := k) hT hS (by omega)) ?_
      refine Pv.if0 rfl (fun c7 => ?_) (fun c7 => ?_)
      · skip
        replace c7 := of_decide_eq_true c7
        replace c7 := b2z.mp c7
        refine Pv.iinc (y := Int32.ofNat (k + 1)) (lo' := [some (.ref p), some (.ref t), some (.int (Int32.ofNat m)), some (.int b), some (.int (Int32.ofNat (k + 1)))]) rfl rfl (i_add k 1) rfl ?_
        refine Pv.goto rfl ?_
        exact ih4 (k + 1, b) (⟨by omega, hb.trans (m_bits_f (by simp [c5, c6, c7])).symm⟩)
      · skip
        replace c7 := of_decide_eq_false c7
        replace c7 := b2n.mp c7
        refine Pv.iload rfl rfl ?_
        refine Pv.lit rfl ?_
        refine Pv.aload rfl rfl ?_
        refine Pv.getR (v := .ref (t + 6)) rfl rfl (hT.o 5 (by decide)) ?_
        refine Pv.iload rfl rfl ?_
        refine Pv.ald (z := Int32.ofNat (t_d T k)) rfl (by rw [i_toNat (by omega)]; exact hT.d _ (by omega)) ?_
        refine Pv.bin (z := 1 <<< ((Int32.ofNat (t_d T k)) &&& 31)) rfl (rfl) ?_
        refine Pv.bin (z := b ||| (1 <<< ((Int32.ofNat (t_d T k)) &&& 31))) rfl (rfl) ?_
        refine Pv.istore (lo' := [some (.ref p), some (.ref t), some (.int (Int32.ofNat m)), some (.int (b ||| (1 <<< ((Int32.ofNat (t_d T k)) &&& 31)))), some (.int (Int32.ofNat k))]) rfl rfl ?_
        refine Pv.iinc (y := Int32.ofNat (k + 1)) (lo' := [some (.ref p), some (.ref t), some (.int (Int32.ofNat m)), some (.int (b ||| (1 <<< ((Int32.ofNat (t_d T k)) &&& 31)))), some (.int (Int32.ofNat (k + 1)))]) rfl rfl (i_add k 1) rfl ?_
        refine Pv.goto rfl ?_
        exact ih4 (k + 1, b ||| (1 <<< ((Int32.ofNat (t_d T k)) &&& 31))) (⟨by omega, by rw [m_bits_t (f := (fun k => decide (t_r T k = m) && m_felt T S k)) (g := t_d T) (k := k) (by simp [c5, c6, c7]), hb]; try rfl⟩)
set_option maxRecDepth 100000 in
set_option maxHeartbeats 4000000 in
theorem f_menOn {F : FW} {t p : Nat} {T : St} {S : Sh} (hT : TR F t T) (hS : SHR F p (t_m T) S){x : Int32} : Pm Z_X6_menOn [.ref p, .ref t, .int x] F (fun r F' => r = some (.int (m_men T S x)) ∧ F' = F) := by
  refine Pm.of fun N => ?_
  obtain ⟨Q, hQ⟩ : ∃ Q : Option Value → FW → Prop, Q = (fun r F' => r = some (.int (m_men T S x)) ∧ F' = F) := ⟨_, rfl⟩
  rw [← hQ]
  have b3 := hT.mb
  have b4 := hT.nb
  have b5 := hT.gb
  refine (show Pv (ab_T L_X6_menOn) N 0 [some (.ref p), some (.ref t), some (.int x), none, none] [] F Q from ?_)
  refine Pv.lit rfl ?_
  refine Pv.istore (lo' := [some (.ref p), some (.ref t), some (.int x), some (.int 0), none]) rfl rfl ?_
  refine Pv.lit rfl ?_
  refine Pv.istore (lo' := [some (.ref p), some (.ref t), some (.int x), some (.int 0), some (.int 0)]) rfl rfl ?_
  refine Pv.lp (ι := Nat × Int32) (lof := fun ⟨k, b⟩ => [some (.ref p), some (.ref t), some (.int x), some (.int b), some (.int (Int32.ofNat k))]) (Ff := fun ⟨k, b⟩ => F) (P := fun ⟨k, b⟩ => k ≤ t_m T ∧ b = m_bits ((fun m => decide (h_a S m = x))) (id) k) ?_ (0, 0) (⟨Nat.zero_le _, rfl⟩)
  rintro N1 hN2 ⟨k, b⟩ hi3 ih4
  refine (show Pv _ _ 5 [some (.ref p), some (.ref t), some (.int x), some (.int b), some (.int (Int32.ofNat k))] [] F Q from ?_)
  obtain ⟨hk, hb⟩ := hi3
  refine Pv.iloadS rfl rfl ?_
  refine Pv.aload rfl rfl ?_
  refine Pv.getI (z := Int32.ofNat (t_m T)) rfl rfl (hT.m) ?_
  refine Pv.icmp rfl (fun c5 => ?_) (fun c5 => ?_)
  · skip
    replace c5 := (i_le (a := t_m T) (b := k) (by omega) (by omega)).mp (of_decide_eq_true c5)
    refine Pv.iload rfl rfl ?_
    exact Pv.ret rfl (by rw [hQ]; exact ⟨by rw [hb, show k = t_m T by omega]; rfl, rfl⟩)
  · skip
    replace c5 := mt (i_le (a := t_m T) (b := k) (by omega) (by omega)).mpr (of_decide_eq_false c5)
    refine Pv.aload rfl rfl ?_
    refine Pv.getR (v := .ref (p + 5)) rfl rfl (hS.o 4 (by decide)) ?_
    refine Pv.iload rfl rfl ?_
    refine Pv.ald (z := h_a S k) rfl (by rw [i_toNat (by omega)]; exact hS.a _ (by omega)) ?_
    refine Pv.iload rfl rfl ?_
    refine Pv.icmp rfl (fun c6 => ?_) (fun c6 => ?_)
    · skip
      replace c6 : decide (h_a S k = x) = false := by simpa using c6
      replace c6 := of_decide_eq_false c6
      refine Pv.iinc (y := Int32.ofNat (k + 1)) (lo' := [some (.ref p), some (.ref t), some (.int x), some (.int b), some (.int (Int32.ofNat (k + 1)))]) rfl rfl (i_add k 1) rfl ?_
      refine Pv.goto rfl ?_
      exact ih4 (k + 1, b) (⟨by omega, hb.trans (m_bits_f (by simp [c5, c6])).symm⟩)
    · skip
      replace c6 : decide (h_a S k = x) = true := by simpa using c6
      replace c6 := of_decide_eq_true c6
      refine Pv.iload rfl rfl ?_
      refine Pv.lit rfl ?_
      refine Pv.iload rfl rfl ?_
      refine Pv.bin (z := 1 <<< ((Int32.ofNat k) &&& 31)) rfl (rfl) ?_
      refine Pv.bin (z := b ||| (1 <<< ((Int32.ofNat k) &&& 31))) rfl (rfl) ?_
      refine Pv.istore (lo' := [some (.ref p), some (.ref t), some (.int x), some (.int (b ||| (1 <<< ((Int32.ofNat k) &&& 31)))), some (.int (Int32.ofNat k))]) rfl rfl ?_
      refine Pv.iinc (y := Int32.ofNat (k + 1)) (lo' := [some (.ref p), some (.ref t), some (.int x), some (.int (b ||| (1 <<< ((Int32.ofNat k) &&& 31)))), some (.int (Int32.ofNat (k + 1)))]) rfl rfl (i_add k 1) rfl ?_
      refine Pv.goto rfl ?_
      exact ih4 (k + 1, b ||| (1 <<< ((Int32.ofNat k) &&& 31))) (⟨by omega, by rw [m_bits_t (f := (fun m => decide (h_a S m = x))) (g := id) (k := k) (by simp [c5, c6]), hb]; try rfl⟩)
set_option maxRecDepth 100000 in
set_option maxHeartbeats 4000000 in
theorem f_couldBeMissed {F : FW} {t p m : Nat} {T : St} {S : Sh} (hT : TR F t T) (hS : SHR F p (t_m T) S) (hm : m < 8) : Pm Z_X6_couldBeMissed [.ref p, .ref t, .int (Int32.ofNat m)] F (fun r F' => r = some (.int (b2i (m_could T S m (t_n T)))) ∧ F' = F) := by
  refine Pm.of fun N => ?_
  obtain ⟨Q, hQ⟩ : ∃ Q : Option Value → FW → Prop, Q = (fun r F' => r = some (.int (b2i (m_could T S m (t_n T)))) ∧ F' = F) := ⟨_, rfl⟩
  rw [← hQ]
  have b3 := hT.mb
  have b4 := hT.nb
  refine (show Pv (ab_T (L_X6_couldBeMissed Z_X6_isAlive)) N 0 [some (.ref p), some (.ref t), some (.int (Int32.ofNat m)), none] [] F Q from ?_)
  refine Pv.lit rfl ?_
  refine Pv.istore (lo' := [some (.ref p), some (.ref t), some (.int (Int32.ofNat m)), some (.int 0)]) rfl rfl ?_
  refine Pv.lp (ι := Nat) (lof := fun k => [some (.ref p), some (.ref t), some (.int (Int32.ofNat m)), some (.int (Int32.ofNat k))]) (Ff := fun k => F) (P := fun k => k ≤ t_n T ∧ m_could T S m k = false) ?_ 0 (⟨Nat.zero_le _, rfl⟩)
  rintro N1 hN2 k hi3 ih4
  refine (show Pv _ _ 2 [some (.ref p), some (.ref t), some (.int (Int32.ofNat m)), some (.int (Int32.ofNat k))] [] F Q from ?_)
  obtain ⟨hk, hb⟩ := hi3
  refine Pv.iloadS rfl rfl ?_
  refine Pv.aload rfl rfl ?_
  refine Pv.getI (z := Int32.ofNat (t_n T)) rfl rfl (hT.n) ?_
  refine Pv.icmp rfl (fun c5 => ?_) (fun c5 => ?_)
  · skip
    replace c5 := (i_le (a := t_n T) (b := k) (by omega) (by omega)).mp (of_decide_eq_true c5)
    refine Pv.lit rfl ?_
    exact Pv.zret rfl (by rw [hQ]; exact ⟨b2_f (by rw [show t_n T = k by omega]; exact hb), rfl⟩)
  · skip
    replace c5 := mt (i_le (a := t_n T) (b := k) (by omega) (by omega)).mpr (of_decide_eq_false c5)
    have b1 := hT.rb (show k < t_n T by omega)
    have b2 := hT.db (show k < t_n T by omega)
    refine Pv.aload rfl rfl ?_
    refine Pv.getR (v := .ref (t + 6)) rfl rfl (hT.o 5 (by decide)) ?_
    refine Pv.iload rfl rfl ?_
    refine Pv.ald (z := Int32.ofNat (t_d T k)) rfl (by rw [i_toNat (by omega)]; exact hT.d _ (by omega)) ?_
    refine Pv.iload rfl rfl ?_
    refine Pv.icmp rfl (fun c6 => ?_) (fun c6 => ?_)
    · skip
      replace c6 : decide (Int32.ofNat (t_d T k) = Int32.ofNat m) = false := by simpa using c6
      replace c6 := mt (i_eq (a := t_d T k) (b := m) (by omega) (by omega)).mpr (of_decide_eq_false c6)
      refine Pv.iinc (y := Int32.ofNat (k + 1)) (lo' := [some (.ref p), some (.ref t), some (.int (Int32.ofNat m)), some (.int (Int32.ofNat (k + 1)))]) rfl rfl (i_add k 1) rfl ?_
      refine Pv.goto rfl ?_
      exact ih4 (k + 1) (⟨by omega, by show (_ || _) = false; simp [hb, c5, c6]⟩)
    · skip
      replace c6 : decide (Int32.ofNat (t_d T k) = Int32.ofNat m) = true := by simpa using c6
      replace c6 := (i_eq (a := t_d T k) (b := m) (by omega) (by omega)).mp (of_decide_eq_true c6)
      refine Pv.aload rfl rfl ?_
      refine Pv.aload rfl rfl ?_
      refine Pv.getR (v := .ref (t + 5)) rfl rfl (hT.o 4 (by decide)) ?_
      refine Pv.iload rfl rfl ?_
      refine Pv.ald (z := Int32.ofNat (t_r T k)) rfl (by rw [i_toNat (by omega)]; exact hT.r _ (by omega)) ?_
      refine Pv.callVI (as := [.ref p, .int (Int32.ofNat (t_r T k))]) (rest := []) (z := b2i (m_alive S (t_r T k))) rfl rfl rfl (f_isAlive (m := t_r T k) hS (by omega) (by omega)) ?_
      refine Pv.if0 rfl (fun c7 => ?_) (fun c7 => ?_)
      · skip
        replace c7 := of_decide_eq_true c7
        replace c7 := b2z.mp c7
        refine Pv.iinc (y := Int32.ofNat (k + 1)) (lo' := [some (.ref p), some (.ref t), some (.int (Int32.ofNat m)), some (.int (Int32.ofNat (k + 1)))]) rfl rfl (i_add k 1) rfl ?_
        refine Pv.goto rfl ?_
        exact ih4 (k + 1) (⟨by omega, by show (_ || _) = false; simp [hb, c5, c6, c7]⟩)
      · skip
        replace c7 := of_decide_eq_false c7
        replace c7 := b2n.mp c7
        refine Pv.lit rfl ?_
        exact Pv.zret rfl (by rw [hQ]; exact ⟨b2_t (m_could_t (show k < t_n T by omega) (by simp [c5, c6, c7])), rfl⟩)
set_option maxRecDepth 100000 in
set_option maxHeartbeats 4000000 in
theorem f_hungerInAll {F : FW} {p n : Nat} {S : Sh} (hS : SHR F p n S) : Pm Z_X6_hungerInAll [.ref p] F (fun r F' => r = some (.int (m_sum (h_u S) 12)) ∧ F' = F) := by
  refine Pm.of fun N => ?_
  obtain ⟨Q, hQ⟩ : ∃ Q : Option Value → FW → Prop, Q = (fun r F' => r = some (.int (m_sum (h_u S) 12)) ∧ F' = F) := ⟨_, rfl⟩
  rw [← hQ]
  refine (show Pv (ab_T L_X6_hungerInAll) N 0 [some (.ref p), none, none] [] F Q from ?_)
  refine Pv.lit rfl ?_
  refine Pv.istore (lo' := [some (.ref p), some (.int 0), none]) rfl rfl ?_
  refine Pv.lit rfl ?_
  refine Pv.istore (lo' := [some (.ref p), some (.int 0), some (.int 0)]) rfl rfl ?_
  refine Pv.lp (ι := Nat × Int32) (lof := fun ⟨k, b⟩ => [some (.ref p), some (.int b), some (.int (Int32.ofNat k))]) (Ff := fun ⟨k, b⟩ => F) (P := fun ⟨k, b⟩ => k ≤ 12 ∧ b = m_sum (h_u S) k) ?_ (0, 0) (⟨Nat.zero_le _, rfl⟩)
  rintro N1 hN2 ⟨k, b⟩ hi3 ih4
  refine (show Pv _ _ 4 [some (.ref p), some (.int b), some (.int (Int32.ofNat k))] [] F Q from ?_)
  obtain ⟨hk, hb⟩ := hi3
  refine Pv.iloadS rfl rfl ?_
  refine Pv.lit rfl ?_
  refine Pv.icmp rfl (fun c5 => ?_) (fun c5 => ?_)
  · skip
    replace c5 := (i_le (a := 12) (b := k) (by omega) (by omega)).mp (of_decide_eq_true c5)
    refine Pv.iload rfl rfl ?_
    exact Pv.ret rfl (by rw [hQ]; exact ⟨by rw [hb, show k = 12 by omega], rfl⟩)
  · skip
    replace c5 := mt (i_le (a := 12) (b := k) (by omega) (by omega)).mpr (of_decide_eq_false c5)
    refine Pv.iload rfl rfl ?_
    refine Pv.aload rfl rfl ?_
    refine Pv.getR (v := .ref (p + 3)) rfl rfl (hS.o 2 (by decide)) ?_
    refine Pv.iload rfl rfl ?_
    refine Pv.ald (z := h_u S k) rfl (by rw [i_toNat (by omega)]; exact hS.u _ (by omega)) ?_
    refine Pv.bin (z := b + (h_u S k)) rfl (rfl) ?_
    refine Pv.istore (lo' := [some (.ref p), some (.int (b + (h_u S k))), some (.int (Int32.ofNat k))]) rfl rfl ?_
    refine Pv.iinc (y := Int32.ofNat (k + 1)) (lo' := [some (.ref p), some (.int (b + (h_u S k))), some (.int (Int32.ofNat (k + 1)))]) rfl rfl (i_add k 1) rfl ?_
    refine Pv.goto rfl ?_
    exact ih4 (k + 1, b + (h_u S k)) (⟨by omega, by show _ = _ + _; rw [hb]⟩)
set_option maxRecDepth 100000 in
set_option maxHeartbeats 4000000 in
theorem f_shCopy {F : FW} {p r m : Nat} {S : Sh} (hp : O7 F p) (hS : SHR F r m S) (hm : m ≤ 8) (hd : p + 7 < r ∨ r + 7 < p) : Pm Z_X6_copyFrom [.ref p, .ref r] F (fun r' F' => r' = none ∧ FX (fun q => p ≤ q ∧ q ≤ p + 7) F F' ∧ SHR F' p m S) := by
  refine Pm.of fun N => ?_
  obtain ⟨Q, hQ⟩ : ∃ Q : Option Value → FW → Prop, Q = (fun r' F' => r' = none ∧ FX (fun q => p ≤ q ∧ q ≤ p + 7) F F' ∧ SHR F' p m S) := ⟨_, rfl⟩
  rw [← hQ]
  refine (show Pv (ab_T L_X6_copyFrom) N 0 [some (.ref p), some (.ref r)] [] F Q from ?_)
  refine Pv.aload rfl rfl ?_
  refine Pv.getR (v := .ref (r + 1)) rfl rfl (hS.o 0 (by decide)) ?_
  refine Pv.lit rfl ?_
  refine Pv.aload rfl rfl ?_
  refine Pv.getR (v := .ref (p + 1)) rfl rfl (hp 0 (by decide)) ?_
  refine Pv.lit rfl ?_
  refine Pv.lit rfl ?_
  refine Pv.copy rfl ?_
  refine (show Pv _ _ 15 [some (.ref p), some (.ref r)] [] (fcp F (r + 1) (p + 1) 0 0 12) Q from ?_)
  refine Pv.aload rfl rfl ?_
  refine Pv.getR (v := .ref (r + 2)) rfl rfl (hS.o 1 (by decide)) ?_
  refine Pv.lit rfl ?_
  refine Pv.aload rfl rfl ?_
  refine Pv.getR (v := .ref (p + 2)) rfl rfl (hp 1 (by decide)) ?_
  refine Pv.lit rfl ?_
  refine Pv.lit rfl ?_
  refine Pv.copy rfl ?_
  refine (show Pv _ _ 30 [some (.ref p), some (.ref r)] [] (fcp (fcp F (r + 1) (p + 1) 0 0 12) (r + 2) (p + 2) 0 0 12) Q from ?_)
  refine Pv.aload rfl rfl ?_
  refine Pv.getR (v := .ref (r + 3)) rfl rfl (hS.o 2 (by decide)) ?_
  refine Pv.lit rfl ?_
  refine Pv.aload rfl rfl ?_
  refine Pv.getR (v := .ref (p + 3)) rfl rfl (hp 2 (by decide)) ?_
  refine Pv.lit rfl ?_
  refine Pv.lit rfl ?_
  refine Pv.copy rfl ?_
  refine (show Pv _ _ 45 [some (.ref p), some (.ref r)] [] (fcp (fcp (fcp F (r + 1) (p + 1) 0 0 12) (r + 2) (p + 2) 0 0 12) (r + 3) (p + 3) 0 0 12) Q from ?_)
  refine Pv.aload rfl rfl ?_
  refine Pv.getR (v := .ref (r + 4)) rfl rfl (hS.o 3 (by decide)) ?_
  refine Pv.lit rfl ?_
  refine Pv.aload rfl rfl ?_
  refine Pv.getR (v := .ref (p + 4)) rfl rfl (hp 3 (by decide)) ?_
  refine Pv.lit rfl ?_
  refine Pv.lit rfl ?_
  refine Pv.copy rfl ?_
  refine (show Pv _ _ 60 [some (.ref p), some (.ref r)] [] (fcp (fcp (fcp (fcp F (r + 1) (p + 1) 0 0 12) (r + 2) (p + 2) 0 0 12) (r + 3) (p + 3) 0 0 12) (r + 4) (p + 4) 0 0 12) Q from ?_)
  refine Pv.aload rfl rfl ?_
  refine Pv.getR (v := .ref (r + 5)) rfl rfl (hS.o 4 (by decide)) ?_
  refine Pv.lit rfl ?_
  refine Pv.aload rfl rfl ?_
  refine Pv.getR (v := .ref (p + 5)) rfl rfl (hp 4 (by decide)) ?_
  refine Pv.lit rfl ?_
  refine Pv.lit rfl ?_
  refine Pv.copy rfl ?_
  refine (show Pv _ _ 75 [some (.ref p), some (.ref r)] [] (fcp (fcp (fcp (fcp (fcp F (r + 1) (p + 1) 0 0 12) (r + 2) (p + 2) 0 0 12) (r + 3) (p + 3) 0 0 12) (r + 4) (p + 4) 0 0 12) (r + 5) (p + 5) 0 0 8) Q from ?_)
  refine Pv.aload rfl rfl ?_
  refine Pv.getR (v := .ref (r + 6)) rfl rfl (hS.o 5 (by decide)) ?_
  refine Pv.lit rfl ?_
  refine Pv.aload rfl rfl ?_
  refine Pv.getR (v := .ref (p + 6)) rfl rfl (hp 5 (by decide)) ?_
  refine Pv.lit rfl ?_
  refine Pv.lit rfl ?_
  refine Pv.copy rfl ?_
  refine (show Pv _ _ 90 [some (.ref p), some (.ref r)] [] (fcp (fcp (fcp (fcp (fcp (fcp F (r + 1) (p + 1) 0 0 12) (r + 2) (p + 2) 0 0 12) (r + 3) (p + 3) 0 0 12) (r + 4) (p + 4) 0 0 12) (r + 5) (p + 5) 0 0 8) (r + 6) (p + 6) 0 0 8) Q from ?_)
  refine Pv.aload rfl rfl ?_
  refine Pv.getR (v := .ref (r + 7)) rfl rfl (hS.o 6 (by decide)) ?_
  refine Pv.lit rfl ?_
  refine Pv.aload rfl rfl ?_
  refine Pv.getR (v := .ref (p + 7)) rfl rfl (hp 6 (by decide)) ?_
  refine Pv.lit rfl ?_
  refine Pv.lit rfl ?_
  refine Pv.copy rfl ?_
  refine (show Pv _ _ 105 [some (.ref p), some (.ref r)] [] (fcp (fcp (fcp (fcp (fcp (fcp (fcp F (r + 1) (p + 1) 0 0 12) (r + 2) (p + 2) 0 0 12) (r + 3) (p + 3) 0 0 12) (r + 4) (p + 4) 0 0 12) (r + 5) (p + 5) 0 0 8) (r + 6) (p + 6) 0 0 8) (r + 7) (p + 7) 0 0 64) Q from ?_)
  refine Pv.aload rfl rfl ?_
  refine Pv.aload rfl rfl ?_
  refine Pv.getI (z := Int32.ofNat (h_d S)) rfl rfl ((fcp_ne (by omega)).trans ((fcp_ne (by omega)).trans ((fcp_ne (by omega)).trans ((fcp_ne (by omega)).trans ((fcp_ne (by omega)).trans ((fcp_ne (by omega)).trans ((fcp_ne (by omega)).trans (hS.d)))))))) ?_
  refine Pv.putI rfl rfl ?_
  refine Pv.aload rfl rfl ?_
  refine Pv.aload rfl rfl ?_
  refine Pv.getI (z := h_i S) rfl rfl ((fp_ne (Or.inl (by omega))).trans ((fcp_ne (by omega)).trans ((fcp_ne (by omega)).trans ((fcp_ne (by omega)).trans ((fcp_ne (by omega)).trans ((fcp_ne (by omega)).trans ((fcp_ne (by omega)).trans ((fcp_ne (by omega)).trans (hS.i))))))))) ?_
  refine Pv.putI rfl rfl ?_
  refine Pv.aload rfl rfl ?_
  refine Pv.aload rfl rfl ?_
  refine Pv.getI (z := h_r S) rfl rfl ((fp_ne (Or.inl (by omega))).trans ((fp_ne (Or.inl (by omega))).trans ((fcp_ne (by omega)).trans ((fcp_ne (by omega)).trans ((fcp_ne (by omega)).trans ((fcp_ne (by omega)).trans ((fcp_ne (by omega)).trans ((fcp_ne (by omega)).trans ((fcp_ne (by omega)).trans (hS.r)))))))))) ?_
  refine Pv.putI rfl rfl ?_
  exact Pv.vret rfl (by rw [hQ]; exact ⟨rfl, (((((((((((FX.rf (P := fun q => p ≤ q ∧ q ≤ p + 7))).fcp (show p ≤ (p + 1) ∧ (p + 1) ≤ p + 7 by omega)).fcp (show p ≤ (p + 2) ∧ (p + 2) ≤ p + 7 by omega)).fcp (show p ≤ (p + 3) ∧ (p + 3) ≤ p + 7 by omega)).fcp (show p ≤ (p + 4) ∧ (p + 4) ≤ p + 7 by omega)).fcp (show p ≤ (p + 5) ∧ (p + 5) ≤ p + 7 by omega)).fcp (show p ≤ (p + 6) ∧ (p + 6) ≤ p + 7 by omega)).fcp (show p ≤ (p + 7) ∧ (p + 7) ≤ p + 7 by omega)).fp (show p ≤ p ∧ p ≤ p + 7 by omega)).fp (show p ≤ p ∧ p ≤ p + 7 by omega)).fp (show p ≤ p ∧ p ≤ p + 7 by omega), hp, hS.db, ((((((((((hS.s).cp (by omega)).cn (by omega)).cn (by omega)).cn (by omega)).cn (by omega)).cn (by omega)).cn (by omega)).ne (by omega)).ne (by omega)).ne (by omega), ((((((((((hS.h).cn (by omega)).cp (by omega)).cn (by omega)).cn (by omega)).cn (by omega)).cn (by omega)).cn (by omega)).ne (by omega)).ne (by omega)).ne (by omega), ((((((((((hS.u).cn (by omega)).cn (by omega)).cp (by omega)).cn (by omega)).cn (by omega)).cn (by omega)).cn (by omega)).ne (by omega)).ne (by omega)).ne (by omega), ((((((((((hS.c).cn (by omega)).cn (by omega)).cn (by omega)).cp (by omega)).cn (by omega)).cn (by omega)).cn (by omega)).ne (by omega)).ne (by omega)).ne (by omega), ((((((((((hS.a).cn (by omega)).cn (by omega)).cn (by omega)).cn (by omega)).cp (by omega)).cn (by omega)).cn (by omega)).ne (by omega)).ne (by omega)).ne (by omega), ((((((((((hS.t).cn (by omega)).cn (by omega)).cn (by omega)).cn (by omega)).cn (by omega)).cp (by omega)).cn (by omega)).ne (by omega)).ne (by omega)).ne (by omega), ((((((((((hS.p).cn (by omega)).cn (by omega)).cn (by omega)).cn (by omega)).cn (by omega)).cn (by omega)).cp (by omega)).ne (by omega)).ne (by omega)).ne (by omega), (fp_ne (Or.inr (by decide))).trans ((fp_ne (Or.inr (by decide))).trans (fp_eq)), (fp_ne (Or.inr (by decide))).trans (fp_eq), fp_eq⟩)
set_option maxRecDepth 100000 in
set_option maxHeartbeats 4000000 in
theorem f_plan {F : FW} {t p : Nat} {T : St} {S : Sh} (hT : TR F t T) (hS : SHR F p (t_m T) S) (hG : GW F) (j1 : t + 7 < 7 ∨ 9 < t) (j2 : p + 7 < 7 ∨ 9 < p) : Pm Z_X1_plan [.ref 7, .ref t, .ref p] F (fun r F' => r = none ∧ FX (fun q => 7 ≤ q ∧ q ≤ 9) F F' ∧ PLN F' T S) := by
  refine Pm.of fun N => ?_
  obtain ⟨Q, hQ⟩ : ∃ Q : Option Value → FW → Prop, Q = (fun r F' => r = none ∧ FX (fun q => 7 ≤ q ∧ q ≤ 9) F F' ∧ PLN F' T S) := ⟨_, rfl⟩
  rw [← hQ]
  have b3 := hT.mb
  have b4 := hT.nb
  have b5 := hT.gb
  have b6 := m_from_lt S
  have b7 := hS.db
  refine (show Pv (ab_T (L_X1_plan Z_X6_ferryShore Z_X6_allMissed Z_X10_slotOf Z_X6_lackAt Z_X1_amountMoved)) N 0 [some (.ref 7), some (.ref t), some (.ref p), none, none, none, none, none] [] F Q from ?_)
  refine Pv.aload rfl rfl ?_
  refine Pv.callVI (as := [.ref p]) (rest := []) (z := Int32.ofNat (m_from S)) rfl rfl rfl (f_ferryShore hS) ?_
  refine Pv.istore (lo' := [some (.ref 7), some (.ref t), some (.ref p), some (.int (Int32.ofNat (m_from S))), none, none, none, none]) rfl rfl ?_
  have cut1 : Pv (ab_T (L_X1_plan Z_X6_ferryShore Z_X6_allMissed Z_X10_slotOf Z_X6_lackAt Z_X1_amountMoved)) N 25 [some (.ref 7), some (.ref t), some (.ref p), some (.int (Int32.ofNat (m_from S))), some (.int (m_room T S)), none, none, none] [] F Q := by
    refine Pv.aload rfl rfl ?_
    refine Pv.lit rfl ?_
    refine Pv.putI rfl rfl ?_
    refine Pv.aload rfl rfl ?_
    refine Pv.lit rfl ?_
    refine Pv.putI rfl rfl ?_
    refine Pv.aload rfl rfl ?_
    refine Pv.aload rfl rfl ?_
    refine Pv.callVI (as := [.ref p, .ref t]) (rest := []) (z := m_missed T S) rfl rfl rfl (f_allMissed (hT.fx (P := fun q => q = 7) ((((FX.rf (P := fun q => q = 7))).fp rfl).fp rfl) (fun q h1 h2 (c : q = 7) => by omega)) (hS.fx (P := fun q => q = 7) ((((FX.rf (P := fun q => q = 7))).fp rfl).fp rfl) (fun q h1 h2 (c : q = 7) => by omega))) ?_
    refine Pv.istore (lo' := [some (.ref 7), some (.ref t), some (.ref p), some (.int (Int32.ofNat (m_from S))), some (.int (m_room T S)), some (.int (m_missed T S)), none, none]) rfl rfl ?_
    refine Pv.lit rfl ?_
    refine Pv.istore (lo' := [some (.ref 7), some (.ref t), some (.ref p), some (.int (Int32.ofNat (m_from S))), some (.int (m_room T S)), some (.int (m_missed T S)), some (.int 0), none]) rfl rfl ?_
    refine Pv.lp (ι := Nat × FW) (lof := fun ⟨k, G⟩ => [some (.ref 7), some (.ref t), some (.ref p), some (.int (Int32.ofNat (m_from S))), some (.int (m_room T S)), some (.int (m_missed T S)), some (.int (Int32.ofNat k)), none]) (Ff := fun ⟨k, G⟩ => G) (P := fun ⟨k, G⟩ => (k ≤ t_m T) ∧ (FX (fun q => 7 ≤ q ∧ q ≤ 9) F G) ∧ (G.1 7 2 = (m_pm T S k).1) ∧ (G.1 7 3 = (m_pm T S k).2)) ?_ (0, (fp (fp F 7 3 0) 7 2 0)) (⟨Nat.zero_le _, (((FX.rf (P := fun q => 7 ≤ q ∧ q ≤ 9))).fp (show 7 ≤ 7 ∧ 7 ≤ 9 by omega)).fp (show 7 ≤ 7 ∧ 7 ≤ 9 by omega), fp_eq, (fp_ne (Or.inr (by decide))).trans (fp_eq)⟩)
    rintro N2 hN3 ⟨k, G⟩ hi4 ih5
    refine (show Pv _ _ 45 [some (.ref 7), some (.ref t), some (.ref p), some (.int (Int32.ofNat (m_from S))), some (.int (m_room T S)), some (.int (m_missed T S)), some (.int (Int32.ofNat k)), none] [] G Q from ?_)
    obtain ⟨hk, hxG, h72, h73⟩ := hi4
    have hx6 := hT.fx (P := fun q => 7 ≤ q ∧ q ≤ 9) hxG (fun q h1 h2 (c : 7 ≤ q ∧ q ≤ 9) => by omega)
    have hx7 := hS.fx (P := fun q => 7 ≤ q ∧ q ≤ 9) hxG (fun q h1 h2 (c : 7 ≤ q ∧ q ≤ 9) => by omega)
    have hx8 := hG.fx (P := fun q => 7 ≤ q ∧ q ≤ 9) hxG
    refine Pv.iloadS rfl rfl ?_
    have cut9 : m_pm T S (t_m T) = m_pm T S k → Pv (ab_T (L_X1_plan Z_X6_ferryShore Z_X6_allMissed Z_X10_slotOf Z_X6_lackAt Z_X1_amountMoved)) N2 115 [some (.ref 7), some (.ref t), some (.ref p), some (.int (Int32.ofNat (m_from S))), some (.int (m_room T S)), some (.int (m_missed T S)), some (.int (Int32.ofNat k)), none] [] G Q := by
      intro ep
      have h72e : G.1 7 2 = m_board T S := h72.trans (by unfold m_board; rw [ep])
      have h73e : G.1 7 3 = m_pg T S 0 := h73.trans (by show _ = (m_pm T S (t_m T)).2; rw [ep])
      refine Pv.lit rfl ?_
      refine Pv.istore (lo' := [some (.ref 7), some (.ref t), some (.ref p), some (.int (Int32.ofNat (m_from S))), some (.int (m_room T S)), some (.int (m_missed T S)), some (.int 0), none]) rfl rfl ?_
      refine Pv.lp (ι := Nat × FW × (Option Value)) (lof := fun ⟨g, G2, o10⟩ => [some (.ref 7), some (.ref t), some (.ref p), some (.int (Int32.ofNat (m_from S))), some (.int (m_room T S)), some (.int (m_missed T S)), some (.int (Int32.ofNat g)), o10]) (Ff := fun ⟨g, G2, o10⟩ => G2) (P := fun ⟨g, G2, o10⟩ => (g ≤ t_g T) ∧ (FX (fun q => 7 ≤ q ∧ q ≤ 9) F G2) ∧ (G2.1 7 2 = m_board T S) ∧ (G2.1 7 3 = m_pg T S g) ∧ (AR G2 8 g (m_fr T S)) ∧ (AR G2 9 g (fun g => m_room T S - m_pg T S g))) ?_ (0, G, none) (⟨Nat.zero_le _, hxG, h72e, h73e, AR.z, AR.z⟩)
      rintro N11 hN12 ⟨g, G2, o10⟩ hi13 ih14
      refine (show Pv _ _ 118 [some (.ref 7), some (.ref t), some (.ref p), some (.int (Int32.ofNat (m_from S))), some (.int (m_room T S)), some (.int (m_missed T S)), some (.int (Int32.ofNat g)), o10] [] G2 Q from ?_)
      obtain ⟨hg, hxG2, h72, h73, h8, h9⟩ := hi13
      have hx15 := hT.fx (P := fun q => 7 ≤ q ∧ q ≤ 9) hxG2 (fun q h1 h2 (c : 7 ≤ q ∧ q ≤ 9) => by omega)
      have hx16 := hS.fx (P := fun q => 7 ≤ q ∧ q ≤ 9) hxG2 (fun q h1 h2 (c : 7 ≤ q ∧ q ≤ 9) => by omega)
      have hx17 := hG.fx (P := fun q => 7 ≤ q ∧ q ≤ 9) hxG2
      refine Pv.iloadS rfl rfl ?_
      refine Pv.aload rfl rfl ?_
      refine Pv.getI (z := Int32.ofNat (t_g T)) rfl rfl (hx15.g) ?_
      refine Pv.icmp rfl (fun c18 => ?_) (fun c18 => ?_)
      · skip
        replace c18 := (i_le (a := t_g T) (b := g) (by omega) (by omega)).mp (of_decide_eq_true c18)
        exact Pv.vret rfl (by rw [hQ]; exact ⟨rfl, hxG2, h72, by rw [h73, show g = t_g T by omega], h8.le (by omega), h9.le (by omega)⟩)
      · skip
        replace c18 := mt (i_le (a := t_g T) (b := g) (by omega) (by omega)).mpr (of_decide_eq_false c18)
        refine Pv.aload rfl rfl ?_
        refine Pv.aload rfl rfl ?_
        refine Pv.iload rfl rfl ?_
        refine Pv.lit rfl ?_
        refine Pv.iload rfl rfl ?_
        refine Pv.bin (z := Int32.ofNat (1 - (m_from S))) rfl (i_1m (by omega)) ?_
        refine Pv.callI (as := [.int (Int32.ofNat g), .int (Int32.ofNat (1 - (m_from S)))]) (rest := [.ref t, .ref p]) (z := Int32.ofNat (2 * g + (1 - (m_from S)))) rfl rfl rfl (f_slotOf (g := g) (s := 1 - (m_from S))) ?_
        refine Pv.callVI (as := [.ref p, .ref t, .int (Int32.ofNat (2 * g + (1 - (m_from S))))]) (rest := []) (z := m_lack T S (2 * g + (1 - (m_from S)))) rfl rfl rfl (f_lackAt (k := 2 * g + (1 - (m_from S))) hx15 hx16 (by omega)) ?_
        refine Pv.istore (lo' := [some (.ref 7), some (.ref t), some (.ref p), some (.int (Int32.ofNat (m_from S))), some (.int (m_room T S)), some (.int (m_missed T S)), some (.int (Int32.ofNat g)), some (.int (m_lack T S (2 * g + (1 - (m_from S)))))]) rfl rfl ?_
        refine Pv.aload rfl rfl ?_
        refine Pv.getR (v := .ref 9) rfl rfl (GW.at (a := 7) (k := 1) (b := 9) hx17 (by decide)) ?_
        refine Pv.iload rfl rfl ?_
        refine Pv.iload rfl rfl ?_
        refine Pv.aload rfl rfl ?_
        refine Pv.getI (z := m_pg T S g) rfl rfl (h73) ?_
        refine Pv.bin (z := (m_room T S) - (m_pg T S g)) rfl (rfl) ?_
        refine Pv.astk (k := g) (z := (m_room T S) - (m_pg T S g)) rfl (i_toNat (by omega)) (rfl) ?_
        refine Pv.aload rfl rfl ?_
        refine Pv.getR (v := .ref 8) rfl rfl (GW.at (a := 7) (k := 0) (b := 8) hx17 (by decide)) ?_
        refine Pv.iload rfl rfl ?_
        refine Pv.aload rfl rfl ?_
        refine Pv.getR (v := .ref (p + 1)) rfl rfl (hx16.o 0 (by decide)) ?_
        refine Pv.iload rfl rfl ?_
        refine Pv.iload rfl rfl ?_
        refine Pv.callI (as := [.int (Int32.ofNat g), .int (Int32.ofNat (m_from S))]) (rest := [.ref (p + 1), .int (Int32.ofNat g), .ref 8]) (z := Int32.ofNat (2 * g + (m_from S))) rfl rfl rfl (f_slotOf (g := g) (s := m_from S)) ?_
        refine Pv.ald (z := h_s S (2 * g + (m_from S))) rfl (by rw [i_toNat (by omega)]; exact (fp_ne (Or.inl (by omega))).trans (hx16.s _ (by omega))) ?_
        refine Pv.iload rfl rfl ?_
        refine Pv.aload rfl rfl ?_
        refine Pv.getR (v := .ref 9) rfl rfl (GW.at (a := 7) (k := 1) (b := 9) hx17 (by decide)) ?_
        refine Pv.iload rfl rfl ?_
        refine Pv.ald (z := (m_room T S) - (m_pg T S g)) rfl (by rw [i_toNat (by omega)]; exact fp_eq) ?_
        refine Pv.callI (as := [.int (h_s S (2 * g + (m_from S))), .int (m_lack T S (2 * g + (1 - (m_from S)))), .int ((m_room T S) - (m_pg T S g))]) (rest := [.int (Int32.ofNat g), .ref 8]) (z := m_moved (h_s S (2 * g + (m_from S))) (m_lack T S (2 * g + (1 - (m_from S)))) ((m_room T S) - (m_pg T S g))) rfl rfl rfl (f_amountMoved (x := h_s S (2 * g + (m_from S))) (y := m_lack T S (2 * g + (1 - (m_from S)))) (z := (m_room T S) - (m_pg T S g))) ?_
        refine Pv.astk (k := g) (z := m_moved (h_s S (2 * g + (m_from S))) (m_lack T S (2 * g + (1 - (m_from S)))) ((m_room T S) - (m_pg T S g))) rfl (i_toNat (by omega)) (rfl) ?_
        refine Pv.aload rfl rfl ?_
        refine Pv.dup rfl ?_
        refine Pv.getI (z := m_pg T S g) rfl rfl ((fp_ne (Or.inl (by decide))).trans ((fp_ne (Or.inl (by decide))).trans (h73))) ?_
        refine Pv.aload rfl rfl ?_
        refine Pv.getR (v := .ref 8) rfl rfl (GW.at (a := 7) (k := 0) (b := 8) hx17 (by decide)) ?_
        refine Pv.iload rfl rfl ?_
        refine Pv.ald (z := m_moved (h_s S (2 * g + (m_from S))) (m_lack T S (2 * g + (1 - (m_from S)))) ((m_room T S) - (m_pg T S g))) rfl (by rw [i_toNat (by omega)]; exact fp_eq) ?_
        refine Pv.bin (z := (m_pg T S g) + (m_moved (h_s S (2 * g + (m_from S))) (m_lack T S (2 * g + (1 - (m_from S)))) ((m_room T S) - (m_pg T S g)))) rfl (rfl) ?_
        refine Pv.putI rfl rfl ?_
        refine Pv.iinc (y := Int32.ofNat (g + 1)) (lo' := [some (.ref 7), some (.ref t), some (.ref p), some (.int (Int32.ofNat (m_from S))), some (.int (m_room T S)), some (.int (m_missed T S)), some (.int (Int32.ofNat (g + 1))), some (.int (m_lack T S (2 * g + (1 - (m_from S)))))]) rfl rfl (i_add g 1) rfl ?_
        refine Pv.goto rfl ?_
        exact ih14 (g + 1, (fp (fp (fp G2 9 g ((m_room T S) - (m_pg T S g))) 8 g (m_moved (h_s S (2 * g + (m_from S))) (m_lack T S (2 * g + (1 - (m_from S)))) ((m_room T S) - (m_pg T S g)))) 7 3 ((m_pg T S g) + (m_moved (h_s S (2 * g + (m_from S))) (m_lack T S (2 * g + (1 - (m_from S)))) ((m_room T S) - (m_pg T S g))))), (some (.int (m_lack T S (2 * g + (1 - (m_from S))))))) (⟨by omega, (((hxG2).fp (show 7 ≤ 9 ∧ 9 ≤ 9 by omega)).fp (show 7 ≤ 8 ∧ 8 ≤ 9 by omega)).fp (show 7 ≤ 7 ∧ 7 ≤ 9 by omega), (fp_ne (Or.inr (by decide))).trans ((fp_ne (Or.inl (by decide))).trans ((fp_ne (Or.inl (by decide))).trans (h72))), fp_eq, (((h8).ne (by decide)).ext (rfl)).ne (by decide), (((h9).ext (rfl)).ne (by decide)).ne (by decide)⟩)
    refine Pv.aload rfl rfl ?_
    refine Pv.getI (z := Int32.ofNat (t_m T)) rfl rfl (hx6.m) ?_
    refine Pv.icmp rfl (fun c19 => ?_) (fun c19 => ?_)
    · skip
      replace c19 := (i_le (a := t_m T) (b := k) (by omega) (by omega)).mp (of_decide_eq_true c19)
      exact cut9 (m_pm_e (T := T) (S := S) hk (by first | exact Or.inl (by omega) | exact Or.inr (by assumption)))
    · skip
      replace c19 := mt (i_le (a := t_m T) (b := k) (by omega) (by omega)).mpr (of_decide_eq_false c19)
      refine Pv.iload rfl rfl ?_
      refine Pv.aload rfl rfl ?_
      refine Pv.getI (z := (m_pm T S k).2) rfl rfl (h73) ?_
      refine Pv.bin (z := (m_room T S) - ((m_pm T S k).2)) rfl (rfl) ?_
      refine Pv.lit rfl ?_
      refine Pv.icmp rfl (fun c20 => ?_) (fun c20 => ?_)
      · skip
        replace c20 := of_decide_eq_true c20
        exact cut9 (m_pm_e (T := T) (S := S) hk (by first | exact Or.inl (by omega) | exact Or.inr (by assumption)))
      · skip
        replace c20 := of_decide_eq_false c20
        refine Pv.aload rfl rfl ?_
        refine Pv.getR (v := .ref (p + 5)) rfl rfl (hx7.o 4 (by decide)) ?_
        refine Pv.iload rfl rfl ?_
        refine Pv.ald (z := h_a S k) rfl (by rw [i_toNat (by omega)]; exact hx7.a _ (by omega)) ?_
        refine Pv.iload rfl rfl ?_
        refine Pv.icmp rfl (fun c21 => ?_) (fun c21 => ?_)
        · skip
          replace c21 : decide (h_a S k = Int32.ofNat (m_from S)) = false := by simpa using c21
          replace c21 := of_decide_eq_false c21
          refine Pv.iinc (y := Int32.ofNat (k + 1)) (lo' := [some (.ref 7), some (.ref t), some (.ref p), some (.int (Int32.ofNat (m_from S))), some (.int (m_room T S)), some (.int (m_missed T S)), some (.int (Int32.ofNat (k + 1))), none]) rfl rfl (i_add k 1) rfl ?_
          refine Pv.goto rfl ?_
          exact ih5 (k + 1, G) (⟨by omega, hxG, (h72).trans (by rw [m_pm_f (Or.inr (Or.inl c21))]), (h73).trans (by rw [m_pm_f (Or.inr (Or.inl c21))])⟩)
        · skip
          replace c21 : decide (h_a S k = Int32.ofNat (m_from S)) = true := by simpa using c21
          replace c21 := of_decide_eq_true c21
          refine Pv.iload rfl rfl ?_
          refine Pv.lit rfl ?_
          refine Pv.iload rfl rfl ?_
          refine Pv.bin (z := 1 <<< ((Int32.ofNat k) &&& 31)) rfl (rfl) ?_
          refine Pv.bin (z := (m_missed T S) &&& (1 <<< ((Int32.ofNat k) &&& 31))) rfl (rfl) ?_
          refine Pv.if0 rfl (fun c22 => ?_) (fun c22 => ?_)
          · skip
            replace c22 := of_decide_eq_true c22
            refine Pv.iinc (y := Int32.ofNat (k + 1)) (lo' := [some (.ref 7), some (.ref t), some (.ref p), some (.int (Int32.ofNat (m_from S))), some (.int (m_room T S)), some (.int (m_missed T S)), some (.int (Int32.ofNat (k + 1))), none]) rfl rfl (i_add k 1) rfl ?_
            refine Pv.goto rfl ?_
            exact ih5 (k + 1, G) (⟨by omega, hxG, (h72).trans (by rw [m_pm_f (Or.inr (Or.inr (by unfold m_bit; simp [c22])))]), (h73).trans (by rw [m_pm_f (Or.inr (Or.inr (by unfold m_bit; simp [c22])))])⟩)
          · skip
            replace c22 := of_decide_eq_false c22
            refine Pv.aload rfl rfl ?_
            refine Pv.dup rfl ?_
            refine Pv.getI (z := (m_pm T S k).1) rfl rfl (h72) ?_
            refine Pv.lit rfl ?_
            refine Pv.iload rfl rfl ?_
            refine Pv.bin (z := 1 <<< ((Int32.ofNat k) &&& 31)) rfl (rfl) ?_
            refine Pv.bin (z := ((m_pm T S k).1) ||| (1 <<< ((Int32.ofNat k) &&& 31))) rfl (rfl) ?_
            refine Pv.putI rfl rfl ?_
            refine Pv.aload rfl rfl ?_
            refine Pv.dup rfl ?_
            refine Pv.getI (z := (m_pm T S k).2) rfl rfl ((fp_ne (Or.inr (by decide))).trans (h73)) ?_
            refine Pv.lit rfl ?_
            refine Pv.bin (z := ((m_pm T S k).2) + 2) rfl (rfl) ?_
            refine Pv.putI rfl rfl ?_
            refine Pv.iinc (y := Int32.ofNat (k + 1)) (lo' := [some (.ref 7), some (.ref t), some (.ref p), some (.int (Int32.ofNat (m_from S))), some (.int (m_room T S)), some (.int (m_missed T S)), some (.int (Int32.ofNat (k + 1))), none]) rfl rfl (i_add k 1) rfl ?_
            refine Pv.goto rfl ?_
            exact ih5 (k + 1, (fp (fp G 7 2 (((m_pm T S k).1) ||| (1 <<< ((Int32.ofNat k) &&& 31)))) 7 3 (((m_pm T S k).2) + 2))) (⟨by omega, ((hxG).fp (show 7 ≤ 7 ∧ 7 ≤ 9 by omega)).fp (show 7 ≤ 7 ∧ 7 ≤ 9 by omega), ((fp_ne (Or.inr (by decide))).trans (fp_eq)).trans (by rw [m_pm_t c20 c21 (by unfold m_bit; simp [c22])]), (fp_eq).trans (by rw [m_pm_t c20 c21 (by unfold m_bit; simp [c22])])⟩)
  refine Pv.aload rfl rfl ?_
  refine Pv.getI (z := Int32.ofNat (h_d S)) rfl rfl (hS.d) ?_
  refine Pv.lit rfl ?_
  refine Pv.icmp rfl (fun c23 => ?_) (fun c23 => ?_)
  · skip
    replace c23 := (i_le (a := 400) (b := h_d S) (by omega) (by omega)).mp (of_decide_eq_true c23)
    refine Pv.lit rfl ?_
    have er : (0 : Int32) = m_room T S := (if_neg (by omega)).symm
    rw [er]
    refine Pv.istore (lo' := [some (.ref 7), some (.ref t), some (.ref p), some (.int (Int32.ofNat (m_from S))), some (.int (m_room T S)), none, none, none]) rfl rfl ?_
    exact cut1
  · skip
    replace c23 := mt (i_le (a := 400) (b := h_d S) (by omega) (by omega)).mpr (of_decide_eq_false c23)
    refine Pv.aload rfl rfl ?_
    refine Pv.getI (z := t_l T) rfl rfl (hT.l) ?_
    refine Pv.goto rfl ?_
    have er : (t_l T : Int32) = m_room T S := (if_pos (by omega)).symm
    rw [er]
    refine Pv.istore (lo' := [some (.ref 7), some (.ref t), some (.ref p), some (.int (Int32.ofNat (m_from S))), some (.int (m_room T S)), none, none, none]) rfl rfl ?_
    exact cut1
set_option maxRecDepth 100000 in
set_option maxHeartbeats 4000000 in
theorem f_carry {F : FW} {t p : Nat} {T : St} {S : Sh} (hT : TR F t T) (hS : SHR F p (t_m T) S) (hG : GW F) (hP : PLN F T S) (j1 : t + 7 < p ∨ p + 7 < t) (j2 : p + 7 < 7 ∨ 9 < p) : Pm Z_X1_carry [.ref 7, .ref t, .ref p] F (fun r F' => r = none ∧ FX (fun q => p ≤ q ∧ q ≤ p + 7) F F' ∧ SHR F' p (t_m T) (m_carry T S)) := by
  refine Pm.of fun N => ?_
  obtain ⟨Q, hQ⟩ : ∃ Q : Option Value → FW → Prop, Q = (fun r F' => r = none ∧ FX (fun q => p ≤ q ∧ q ≤ p + 7) F F' ∧ SHR F' p (t_m T) (m_carry T S)) := ⟨_, rfl⟩
  rw [← hQ]
  have b3 := hT.mb
  have b4 := hT.nb
  have b5 := hT.gb
  have b6 := m_from_lt S
  have b7 := hS.db
  refine (show Pv (ab_T (L_X1_carry Z_X6_ferryShore Z_X10_slotOf)) N 0 [some (.ref 7), some (.ref t), some (.ref p), none, none] [] F Q from ?_)
  refine Pv.aload rfl rfl ?_
  refine Pv.callVI (as := [.ref p]) (rest := []) (z := Int32.ofNat (m_from S)) rfl rfl rfl (f_ferryShore hS) ?_
  refine Pv.istore (lo' := [some (.ref 7), some (.ref t), some (.ref p), some (.int (Int32.ofNat (m_from S))), none]) rfl rfl ?_
  refine Pv.lit rfl ?_
  refine Pv.istore (lo' := [some (.ref 7), some (.ref t), some (.ref p), some (.int (Int32.ofNat (m_from S))), some (.int 0)]) rfl rfl ?_
  refine Pv.lp (ι := Nat × FW) (lof := fun ⟨k, G⟩ => [some (.ref 7), some (.ref t), some (.ref p), some (.int (Int32.ofNat (m_from S))), some (.int (Int32.ofNat k))]) (Ff := fun ⟨k, G⟩ => G) (P := fun ⟨k, G⟩ => (k ≤ t_m T) ∧ (FX (fun q => p ≤ q ∧ q ≤ p + 7) F G) ∧ (G.1 p 7 = Int32.ofNat (h_d S)) ∧ (G.1 p 8 = h_i S) ∧ (G.1 p 9 = h_r S) ∧ (AR G (p + 5) (t_m T) (m_cA T S k)) ∧ (AR G (p + 6) (t_m T) (m_cT T S k)) ∧ (AR G (p + 1) 12 (h_s S)) ∧ (AR G (p + 2) 12 (h_h S)) ∧ (AR G (p + 3) 12 (h_u S)) ∧ (AR G (p + 4) 12 (h_c S)) ∧ (AR G (p + 7) 64 (h_p S))) ?_ (0, F) (⟨Nat.zero_le _, FX.rf, hS.d, hS.i, hS.r, hS.a, hS.t, hS.s, hS.h, hS.u, hS.c, hS.p⟩)
  rintro N1 hN2 ⟨k, G⟩ hi3 ih4
  refine (show Pv _ _ 8 [some (.ref 7), some (.ref t), some (.ref p), some (.int (Int32.ofNat (m_from S))), some (.int (Int32.ofNat k))] [] G Q from ?_)
  obtain ⟨hk, hxG, hG7, hG8, hG9, hA, hT_, hG_1, hG_2, hG_3, hG_4, hG_7⟩ := hi3
  have hx5 := hT.fx (P := fun q => p ≤ q ∧ q ≤ p + 7) hxG (fun q h1 h2 (c : p ≤ q ∧ q ≤ p + 7) => by omega)
  have hx6 := hG.fx (P := fun q => p ≤ q ∧ q ≤ p + 7) hxG
  have hx7 := FX.O7 (P := fun q => p ≤ q ∧ q ≤ p + 7) hxG hS.o
  have hp8 := PLN.fx (P := fun q => p ≤ q ∧ q ≤ p + 7) hP hxG (fun q h1 h2 (c : p ≤ q ∧ q ≤ p + 7) => by omega)
  refine Pv.iloadS rfl rfl ?_
  refine Pv.aload rfl rfl ?_
  refine Pv.getI (z := Int32.ofNat (t_m T)) rfl rfl (hx5.m) ?_
  refine Pv.icmp rfl (fun c9 => ?_) (fun c9 => ?_)
  · skip
    replace c9 := (i_le (a := t_m T) (b := k) (by omega) (by omega)).mp (of_decide_eq_true c9)
    have ek : k = t_m T := by omega
    rw [ek] at hA hT_
    refine Pv.lit rfl ?_
    refine Pv.istore (lo' := [some (.ref 7), some (.ref t), some (.ref p), some (.int (Int32.ofNat (m_from S))), some (.int 0)]) rfl rfl ?_
    refine Pv.lp (ι := Nat × FW) (lof := fun ⟨g, G2⟩ => [some (.ref 7), some (.ref t), some (.ref p), some (.int (Int32.ofNat (m_from S))), some (.int (Int32.ofNat g))]) (Ff := fun ⟨g, G2⟩ => G2) (P := fun ⟨g, G2⟩ => (g ≤ t_g T) ∧ (FX (fun q => p ≤ q ∧ q ≤ p + 7) F G2) ∧ (G2.1 p 7 = Int32.ofNat (h_d S)) ∧ (G2.1 p 8 = h_i S) ∧ (G2.1 p 9 = h_r S) ∧ (AR G2 (p + 1) 12 (m_cS T S g)) ∧ (AR G2 (p + 4) 12 (m_cC T S g)) ∧ (AR G2 (p + 5) (t_m T) (m_cA T S (t_m T))) ∧ (AR G2 (p + 6) (t_m T) (m_cT T S (t_m T))) ∧ (AR G2 (p + 2) 12 (h_h S)) ∧ (AR G2 (p + 3) 12 (h_u S)) ∧ (AR G2 (p + 7) 64 (h_p S))) ?_ (0, G) (⟨Nat.zero_le _, hxG, hG7, hG8, hG9, hG_1, hG_4, hA, hT_, hG_2, hG_3, hG_7⟩)
    rintro N10 hN11 ⟨g, G2⟩ hi12 ih13
    refine (show Pv _ _ 59 [some (.ref 7), some (.ref t), some (.ref p), some (.int (Int32.ofNat (m_from S))), some (.int (Int32.ofNat g))] [] G2 Q from ?_)
    obtain ⟨hg, hxG2, hG27, hG28, hG29, hS_, hC, hA2, hT2, hG2_2, hG2_3, hG2_7⟩ := hi12
    have hx14 := hT.fx (P := fun q => p ≤ q ∧ q ≤ p + 7) hxG2 (fun q h1 h2 (c : p ≤ q ∧ q ≤ p + 7) => by omega)
    have hx15 := hG.fx (P := fun q => p ≤ q ∧ q ≤ p + 7) hxG2
    have hx16 := FX.O7 (P := fun q => p ≤ q ∧ q ≤ p + 7) hxG2 hS.o
    have hp17 := PLN.fx (P := fun q => p ≤ q ∧ q ≤ p + 7) hP hxG2 (fun q h1 h2 (c : p ≤ q ∧ q ≤ p + 7) => by omega)
    refine Pv.iloadS rfl rfl ?_
    refine Pv.aload rfl rfl ?_
    refine Pv.getI (z := Int32.ofNat (t_g T)) rfl rfl (hx14.g) ?_
    refine Pv.icmp rfl (fun c18 => ?_) (fun c18 => ?_)
    · skip
      replace c18 := (i_le (a := t_g T) (b := g) (by omega) (by omega)).mp (of_decide_eq_true c18)
      refine Pv.aload rfl rfl ?_
      refine Pv.dup rfl ?_
      refine Pv.getI (z := h_r S) rfl rfl (hG29) ?_
      refine Pv.aload rfl rfl ?_
      refine Pv.getI (z := m_pg T S (t_g T)) rfl rfl (hp17.2.1) ?_
      refine Pv.bin (z := (h_r S) + (m_pg T S (t_g T))) rfl (rfl) ?_
      refine Pv.putI rfl rfl ?_
      refine Pv.aload rfl rfl ?_
      refine Pv.getI (z := m_pg T S (t_g T)) rfl rfl ((fp_ne (Or.inl (by omega))).trans (hp17.2.1)) ?_
      refine Pv.if0 rfl (fun c19 => ?_) (fun c19 => ?_)
      · skip
        replace c19 : decide (m_pg T S (t_g T) = 0) = false := by simpa using c19
        replace c19 := of_decide_eq_false c19
        exact Pv.vret rfl (by rw [hQ]; exact ⟨rfl, (hxG2).fp (show p ≤ p ∧ p ≤ p + 7 by omega), hx16, hS.db, ((hS_).ne (by omega)).eq (congrArg (m_cS T S) (by omega)), (hG2_2).ne (by omega), (hG2_3).ne (by omega), ((hC).ne (by omega)).eq (congrArg (m_cC T S) (by omega)), (hA2).ne (by omega), (hT2).ne (by omega), (hG2_7).ne (by omega), (fp_ne (Or.inr (by decide))).trans (hG27), ((fp_ne (Or.inr (by decide))).trans (hG28)).trans (if_neg c19).symm, fp_eq⟩)
      · skip
        replace c19 : decide (m_pg T S (t_g T) = 0) = true := by simpa using c19
        replace c19 := of_decide_eq_true c19
        refine Pv.aload rfl rfl ?_
        refine Pv.dup rfl ?_
        refine Pv.getI (z := h_i S) rfl rfl ((fp_ne (Or.inr (by decide))).trans (hG28)) ?_
        refine Pv.lit rfl ?_
        refine Pv.bin (z := (h_i S) + 1) rfl (rfl) ?_
        refine Pv.putI rfl rfl ?_
        exact Pv.vret rfl (by rw [hQ]; exact ⟨rfl, ((hxG2).fp (show p ≤ p ∧ p ≤ p + 7 by omega)).fp (show p ≤ p ∧ p ≤ p + 7 by omega), hx16, hS.db, (((hS_).ne (by omega)).ne (by omega)).eq (congrArg (m_cS T S) (by omega)), ((hG2_2).ne (by omega)).ne (by omega), ((hG2_3).ne (by omega)).ne (by omega), (((hC).ne (by omega)).ne (by omega)).eq (congrArg (m_cC T S) (by omega)), ((hA2).ne (by omega)).ne (by omega), ((hT2).ne (by omega)).ne (by omega), ((hG2_7).ne (by omega)).ne (by omega), (fp_ne (Or.inr (by decide))).trans ((fp_ne (Or.inr (by decide))).trans (hG27)), (fp_eq).trans (if_pos c19).symm, (fp_ne (Or.inr (by decide))).trans (fp_eq)⟩)
    · skip
      replace c18 := mt (i_le (a := t_g T) (b := g) (by omega) (by omega)).mpr (of_decide_eq_false c18)
      refine Pv.aload rfl rfl ?_
      refine Pv.getR (v := .ref (p + 1)) rfl rfl (hx16 0 (by decide)) ?_
      refine Pv.iload rfl rfl ?_
      refine Pv.iload rfl rfl ?_
      refine Pv.callI (as := [.int (Int32.ofNat g), .int (Int32.ofNat (m_from S))]) (rest := [.ref (p + 1)]) (z := Int32.ofNat (2 * g + (m_from S))) rfl rfl rfl (f_slotOf (g := g) (s := m_from S)) ?_
      refine Pv.dup2 rfl ?_
      refine Pv.ald (z := (m_cS T S g) (2 * g + (m_from S))) rfl (by rw [i_toNat (by omega)]; exact hS_ _ (by omega)) ?_
      refine Pv.aload rfl rfl ?_
      refine Pv.getR (v := .ref 8) rfl rfl (GW.at (a := 7) (k := 0) (b := 8) hx15 (by decide)) ?_
      refine Pv.iload rfl rfl ?_
      refine Pv.ald (z := m_fr T S g) rfl (by rw [i_toNat (by omega)]; exact hp17.2.2.1 _ (by omega)) ?_
      refine Pv.bin (z := ((m_cS T S g) (2 * g + (m_from S))) - (m_fr T S g)) rfl (rfl) ?_
      refine Pv.astk (k := 2 * g + (m_from S)) (z := ((m_cS T S g) (2 * g + (m_from S))) - (m_fr T S g)) rfl (i_toNat (by omega)) (rfl) ?_
      refine Pv.aload rfl rfl ?_
      refine Pv.getR (v := .ref (p + 1)) rfl rfl (hx16 0 (by decide)) ?_
      refine Pv.iload rfl rfl ?_
      refine Pv.lit rfl ?_
      refine Pv.iload rfl rfl ?_
      refine Pv.bin (z := Int32.ofNat (1 - (m_from S))) rfl (i_1m (by omega)) ?_
      refine Pv.callI (as := [.int (Int32.ofNat g), .int (Int32.ofNat (1 - (m_from S)))]) (rest := [.ref (p + 1)]) (z := Int32.ofNat (2 * g + (1 - (m_from S)))) rfl rfl rfl (f_slotOf (g := g) (s := 1 - (m_from S))) ?_
      refine Pv.dup2 rfl ?_
      refine Pv.ald (z := (m_cS T S g) (2 * g + (1 - (m_from S)))) rfl (by rw [i_toNat (by omega)]; exact (fp_ne (Or.inr (by omega))).trans (hS_ _ (by omega))) ?_
      refine Pv.aload rfl rfl ?_
      refine Pv.getR (v := .ref 8) rfl rfl (GW.at (a := 7) (k := 0) (b := 8) hx15 (by decide)) ?_
      refine Pv.iload rfl rfl ?_
      refine Pv.ald (z := m_fr T S g) rfl (by rw [i_toNat (by omega)]; exact (fp_ne (Or.inl (by omega))).trans (hp17.2.2.1 _ (by omega))) ?_
      refine Pv.bin (z := ((m_cS T S g) (2 * g + (1 - (m_from S)))) + (m_fr T S g)) rfl (rfl) ?_
      refine Pv.astk (k := 2 * g + (1 - (m_from S))) (z := ((m_cS T S g) (2 * g + (1 - (m_from S)))) + (m_fr T S g)) rfl (i_toNat (by omega)) (rfl) ?_
      refine Pv.aload rfl rfl ?_
      refine Pv.getR (v := .ref (p + 4)) rfl rfl (hx16 3 (by decide)) ?_
      refine Pv.iload rfl rfl ?_
      refine Pv.lit rfl ?_
      refine Pv.iload rfl rfl ?_
      refine Pv.bin (z := Int32.ofNat (1 - (m_from S))) rfl (i_1m (by omega)) ?_
      refine Pv.callI (as := [.int (Int32.ofNat g), .int (Int32.ofNat (1 - (m_from S)))]) (rest := [.ref (p + 4)]) (z := Int32.ofNat (2 * g + (1 - (m_from S)))) rfl rfl rfl (f_slotOf (g := g) (s := 1 - (m_from S))) ?_
      refine Pv.dup2 rfl ?_
      refine Pv.ald (z := (m_cC T S g) (2 * g + (1 - (m_from S)))) rfl (by rw [i_toNat (by omega)]; exact (fp_ne (Or.inl (by omega))).trans ((fp_ne (Or.inl (by omega))).trans (hC _ (by omega)))) ?_
      refine Pv.aload rfl rfl ?_
      refine Pv.getR (v := .ref 8) rfl rfl (GW.at (a := 7) (k := 0) (b := 8) hx15 (by decide)) ?_
      refine Pv.iload rfl rfl ?_
      refine Pv.ald (z := m_fr T S g) rfl (by rw [i_toNat (by omega)]; exact (fp_ne (Or.inl (by omega))).trans ((fp_ne (Or.inl (by omega))).trans (hp17.2.2.1 _ (by omega)))) ?_
      refine Pv.bin (z := ((m_cC T S g) (2 * g + (1 - (m_from S)))) + (m_fr T S g)) rfl (rfl) ?_
      refine Pv.astk (k := 2 * g + (1 - (m_from S))) (z := ((m_cC T S g) (2 * g + (1 - (m_from S)))) + (m_fr T S g)) rfl (i_toNat (by omega)) (rfl) ?_
      refine Pv.iinc (y := Int32.ofNat (g + 1)) (lo' := [some (.ref 7), some (.ref t), some (.ref p), some (.int (Int32.ofNat (m_from S))), some (.int (Int32.ofNat (g + 1)))]) rfl rfl (i_add g 1) rfl ?_
      refine Pv.goto rfl ?_
      exact ih13 (g + 1, (fp (fp (fp G2 (p + 1) (2 * g + (m_from S)) (((m_cS T S g) (2 * g + (m_from S))) - (m_fr T S g))) (p + 1) (2 * g + (1 - (m_from S))) (((m_cS T S g) (2 * g + (1 - (m_from S)))) + (m_fr T S g))) (p + 4) (2 * g + (1 - (m_from S))) (((m_cC T S g) (2 * g + (1 - (m_from S)))) + (m_fr T S g)))) (⟨by omega, (((hxG2).fp (show p ≤ (p + 1) ∧ (p + 1) ≤ p + 7 by omega)).fp (show p ≤ (p + 1) ∧ (p + 1) ≤ p + 7 by omega)).fp (show p ≤ (p + 4) ∧ (p + 4) ≤ p + 7 by omega), (fp_ne (Or.inl (by omega))).trans ((fp_ne (Or.inl (by omega))).trans ((fp_ne (Or.inl (by omega))).trans (hG27))), (fp_ne (Or.inl (by omega))).trans ((fp_ne (Or.inl (by omega))).trans ((fp_ne (Or.inl (by omega))).trans (hG28))), (fp_ne (Or.inl (by omega))).trans ((fp_ne (Or.inl (by omega))).trans ((fp_ne (Or.inl (by omega))).trans (hG29))), (((hS_).up).up).ne (by omega), (((hC).ne (by omega)).ne (by omega)).up, (((hA2).ne (by omega)).ne (by omega)).ne (by omega), (((hT2).ne (by omega)).ne (by omega)).ne (by omega), (((hG2_2).ne (by omega)).ne (by omega)).ne (by omega), (((hG2_3).ne (by omega)).ne (by omega)).ne (by omega), (((hG2_7).ne (by omega)).ne (by omega)).ne (by omega)⟩)
  · skip
    replace c9 := mt (i_le (a := t_m T) (b := k) (by omega) (by omega)).mpr (of_decide_eq_false c9)
    refine Pv.aload rfl rfl ?_
    refine Pv.getI (z := m_board T S) rfl rfl (hp8.1) ?_
    refine Pv.lit rfl ?_
    refine Pv.iload rfl rfl ?_
    refine Pv.bin (z := 1 <<< ((Int32.ofNat k) &&& 31)) rfl (rfl) ?_
    refine Pv.bin (z := (m_board T S) &&& (1 <<< ((Int32.ofNat k) &&& 31))) rfl (rfl) ?_
    refine Pv.if0 rfl (fun c20 => ?_) (fun c20 => ?_)
    · skip
      replace c20 := of_decide_eq_true c20
      refine Pv.iinc (y := Int32.ofNat (k + 1)) (lo' := [some (.ref 7), some (.ref t), some (.ref p), some (.int (Int32.ofNat (m_from S))), some (.int (Int32.ofNat (k + 1)))]) rfl rfl (i_add k 1) rfl ?_
      refine Pv.goto rfl ?_
      exact ih4 (k + 1, G) (⟨by omega, hxG, hG7, hG8, hG9, (hA).eq ((if_neg (by simp [m_bit, c20])).symm), (hT_).eq ((if_neg (by simp [m_bit, c20])).symm), hG_1, hG_2, hG_3, hG_4, hG_7⟩)
    · skip
      replace c20 := of_decide_eq_false c20
      refine Pv.aload rfl rfl ?_
      refine Pv.getR (v := .ref (p + 5)) rfl rfl (hx7 4 (by decide)) ?_
      refine Pv.iload rfl rfl ?_
      refine Pv.lit rfl ?_
      refine Pv.iload rfl rfl ?_
      refine Pv.bin (z := Int32.ofNat (1 - (m_from S))) rfl (i_1m (by omega)) ?_
      refine Pv.astk (k := k) (z := Int32.ofNat (1 - (m_from S))) rfl (i_toNat (by omega)) (rfl) ?_
      refine Pv.aload rfl rfl ?_
      refine Pv.getR (v := .ref (p + 6)) rfl rfl (hx7 5 (by decide)) ?_
      refine Pv.iload rfl rfl ?_
      refine Pv.dup2 rfl ?_
      refine Pv.ald (z := (m_cT T S k) k) rfl (by rw [i_toNat (by omega)]; exact (fp_ne (Or.inl (by omega))).trans (hT_ _ (by omega))) ?_
      refine Pv.lit rfl ?_
      refine Pv.bin (z := ((m_cT T S k) k) + 1) rfl (rfl) ?_
      refine Pv.astk (k := k) (z := ((m_cT T S k) k) + 1) rfl (i_toNat (by omega)) (rfl) ?_
      refine Pv.iinc (y := Int32.ofNat (k + 1)) (lo' := [some (.ref 7), some (.ref t), some (.ref p), some (.int (Int32.ofNat (m_from S))), some (.int (Int32.ofNat (k + 1)))]) rfl rfl (i_add k 1) rfl ?_
      refine Pv.goto rfl ?_
      exact ih4 (k + 1, (fp (fp G (p + 5) k (Int32.ofNat (1 - (m_from S)))) (p + 6) k (((m_cT T S k) k) + 1))) (⟨by omega, ((hxG).fp (show p ≤ (p + 5) ∧ (p + 5) ≤ p + 7 by omega)).fp (show p ≤ (p + 6) ∧ (p + 6) ≤ p + 7 by omega), (fp_ne (Or.inl (by omega))).trans ((fp_ne (Or.inl (by omega))).trans (hG7)), (fp_ne (Or.inl (by omega))).trans ((fp_ne (Or.inl (by omega))).trans (hG8)), (fp_ne (Or.inl (by omega))).trans ((fp_ne (Or.inl (by omega))).trans (hG9)), (((hA).up).ne (by omega)).eq ((if_pos (by simp [m_bit, c20])).symm), (((hT_).ne (by omega)).up).eq ((if_pos (by simp [m_bit, c20])).symm), ((hG_1).ne (by omega)).ne (by omega), ((hG_2).ne (by omega)).ne (by omega), ((hG_3).ne (by omega)).ne (by omega), ((hG_4).ne (by omega)).ne (by omega), ((hG_7).ne (by omega)).ne (by omega)⟩)
set_option maxRecDepth 100000 in
set_option maxHeartbeats 4000000 in
theorem f_makeAndEat {F : FW} {t p : Nat} {T : St} {S : Sh} (hT : TR F t T) (hS : SHR F p (t_m T) S) (j1 : t + 7 < p ∨ p + 7 < t) : Pm Z_X6_makeAndEat [.ref p, .ref t] F (fun r F' => r = none ∧ FX (fun q => p ≤ q ∧ q ≤ p + 7) F F' ∧ SHR F' p (t_m T) (m_eat T S)) := by
  refine Pm.of fun N => ?_
  obtain ⟨Q, hQ⟩ : ∃ Q : Option Value → FW → Prop, Q = (fun r F' => r = none ∧ FX (fun q => p ≤ q ∧ q ≤ p + 7) F F' ∧ SHR F' p (t_m T) (m_eat T S)) := ⟨_, rfl⟩
  rw [← hQ]
  have b3 := hT.mb
  have b4 := hT.nb
  have b5 := hT.gb
  have b6 := m_from_lt S
  have b7 := hS.db
  refine (show Pv (ab_T (L_X6_makeAndEat Z_X7_leftAfter)) N 0 [some (.ref p), some (.ref t), none, none] [] F Q from ?_)
  refine Pv.lit rfl ?_
  refine Pv.istore (lo' := [some (.ref p), some (.ref t), some (.int 0), none]) rfl rfl ?_
  refine Pv.lp (ι := Nat × FW × (Option Value)) (lof := fun ⟨k, G, o1⟩ => [some (.ref p), some (.ref t), some (.int (Int32.ofNat k)), o1]) (Ff := fun ⟨k, G, o1⟩ => G) (P := fun ⟨k, G, o1⟩ => (k ≤ 2 * t_g T) ∧ (FX (fun q => p ≤ q ∧ q ≤ p + 7) F G) ∧ (G.1 p 7 = Int32.ofNat (h_d S)) ∧ (G.1 p 8 = h_i S) ∧ (G.1 p 9 = h_r S) ∧ (AR G (p + 1) 12 (m_eS T S k)) ∧ (AR G (p + 3) 12 (m_eU T S k)) ∧ (AR G (p + 2) 12 (h_h S)) ∧ (AR G (p + 4) 12 (h_c S)) ∧ (AR G (p + 5) (t_m T) (h_a S)) ∧ (AR G (p + 6) (t_m T) (h_t S)) ∧ (AR G (p + 7) 64 (h_p S))) ?_ (0, F, none) (⟨Nat.zero_le _, FX.rf, hS.d, hS.i, hS.r, hS.s, hS.u, hS.h, hS.c, hS.a, hS.t, hS.p⟩)
  rintro N2 hN3 ⟨k, G, o1⟩ hi4 ih5
  refine (show Pv _ _ 2 [some (.ref p), some (.ref t), some (.int (Int32.ofNat k)), o1] [] G Q from ?_)
  obtain ⟨hk, hxG, hG7, hG8, hG9, hE, hU, hG_2, hG_4, hG_5, hG_6, hG_7⟩ := hi4
  have hx6 := hT.fx (P := fun q => p ≤ q ∧ q ≤ p + 7) hxG (fun q h1 h2 (c : p ≤ q ∧ q ≤ p + 7) => by omega)
  have hx7 := FX.O7 (P := fun q => p ≤ q ∧ q ≤ p + 7) hxG hS.o
  refine Pv.iloadS rfl rfl ?_
  refine Pv.lit rfl ?_
  refine Pv.aload rfl rfl ?_
  refine Pv.getI (z := Int32.ofNat (t_g T)) rfl rfl (hx6.g) ?_
  refine Pv.bin (z := Int32.ofNat (2 * (t_g T))) rfl (i_mul 2 (t_g T)) ?_
  refine Pv.icmp rfl (fun c8 => ?_) (fun c8 => ?_)
  · skip
    replace c8 := (i_le (a := 2 * (t_g T)) (b := k) (by omega) (by omega)).mp (of_decide_eq_true c8)
    exact Pv.vret rfl (by rw [hQ]; exact ⟨rfl, hxG, hx7, hS.db, hE.eq (congrArg (m_eS T S) (by omega)), hG_2, hU.eq (congrArg (m_eU T S) (by omega)), hG_4, hG_5, hG_6, hG_7, hG7, hG8, hG9⟩)
  · skip
    replace c8 := mt (i_le (a := 2 * (t_g T)) (b := k) (by omega) (by omega)).mpr (of_decide_eq_false c8)
    refine Pv.aload rfl rfl ?_
    refine Pv.iload rfl rfl ?_
    refine Pv.aload rfl rfl ?_
    refine Pv.getR (v := .ref (p + 1)) rfl rfl (hx7 0 (by decide)) ?_
    refine Pv.iload rfl rfl ?_
    refine Pv.ald (z := (m_eS T S k) k) rfl (by rw [i_toNat (by omega)]; exact hE _ (by omega)) ?_
    refine Pv.callVI (as := [.ref t, .int (Int32.ofNat k), .int ((m_eS T S k) k)]) (rest := []) (z := m_left T k ((m_eS T S k) k)) rfl rfl rfl (f_leftAfter (k := k) (x := (m_eS T S k) k) hx6 (by omega)) ?_
    refine Pv.istore (lo' := [some (.ref p), some (.ref t), some (.int (Int32.ofNat k)), some (.int (m_left T k ((m_eS T S k) k)))]) rfl rfl ?_
    refine Pv.iload rfl rfl ?_
    refine Pv.if0 rfl (fun c9 => ?_) (fun c9 => ?_)
    · skip
      replace c9 := of_decide_eq_true c9
      refine Pv.aload rfl rfl ?_
      refine Pv.getR (v := .ref (p + 1)) rfl rfl (hx7 0 (by decide)) ?_
      refine Pv.iload rfl rfl ?_
      refine Pv.lit rfl ?_
      refine Pv.iload rfl rfl ?_
      refine Pv.mm (z := ab_max 0 (m_left T k ((m_eS T S k) k))) rfl (rfl) ?_
      refine Pv.astk (k := k) (z := ab_max 0 (m_left T k ((m_eS T S k) k))) rfl (i_toNat (by omega)) (rfl) ?_
      refine Pv.iinc (y := Int32.ofNat (k + 1)) (lo' := [some (.ref p), some (.ref t), some (.int (Int32.ofNat (k + 1))), some (.int (m_left T k ((m_eS T S k) k)))]) rfl rfl (i_add k 1) rfl ?_
      refine Pv.goto rfl ?_
      exact ih5 (k + 1, (fp G (p + 1) k (ab_max 0 (m_left T k ((m_eS T S k) k)))), (some (.int (m_left T k ((m_eS T S k) k))))) (⟨by omega, (hxG).fp (show p ≤ (p + 1) ∧ (p + 1) ≤ p + 7 by omega), (fp_ne (Or.inl (by omega))).trans (hG7), (fp_ne (Or.inl (by omega))).trans (hG8), (fp_ne (Or.inl (by omega))).trans (hG9), (hE).up, ((hU).ne (by omega)).eq ((if_neg (Int32.not_lt.mpr c9)).symm), (hG_2).ne (by omega), (hG_4).ne (by omega), (hG_5).ne (by omega), (hG_6).ne (by omega), (hG_7).ne (by omega)⟩)
    · skip
      replace c9 := of_decide_eq_false c9
      refine Pv.aload rfl rfl ?_
      refine Pv.getR (v := .ref (p + 3)) rfl rfl (hx7 2 (by decide)) ?_
      refine Pv.iload rfl rfl ?_
      refine Pv.dup2 rfl ?_
      refine Pv.ald (z := (m_eU T S k) k) rfl (by rw [i_toNat (by omega)]; exact hU _ (by omega)) ?_
      refine Pv.iload rfl rfl ?_
      refine Pv.bin (z := ((m_eU T S k) k) - (m_left T k ((m_eS T S k) k))) rfl (rfl) ?_
      refine Pv.astk (k := k) (z := ((m_eU T S k) k) - (m_left T k ((m_eS T S k) k))) rfl (i_toNat (by omega)) (rfl) ?_
      refine Pv.aload rfl rfl ?_
      refine Pv.getR (v := .ref (p + 1)) rfl rfl (hx7 0 (by decide)) ?_
      refine Pv.iload rfl rfl ?_
      refine Pv.lit rfl ?_
      refine Pv.iload rfl rfl ?_
      refine Pv.mm (z := ab_max 0 (m_left T k ((m_eS T S k) k))) rfl (rfl) ?_
      refine Pv.astk (k := k) (z := ab_max 0 (m_left T k ((m_eS T S k) k))) rfl (i_toNat (by omega)) (rfl) ?_
      refine Pv.iinc (y := Int32.ofNat (k + 1)) (lo' := [some (.ref p), some (.ref t), some (.int (Int32.ofNat (k + 1))), some (.int (m_left T k ((m_eS T S k) k)))]) rfl rfl (i_add k 1) rfl ?_
      refine Pv.goto rfl ?_
      exact ih5 (k + 1, (fp (fp G (p + 3) k (((m_eU T S k) k) - (m_left T k ((m_eS T S k) k)))) (p + 1) k (ab_max 0 (m_left T k ((m_eS T S k) k)))), (some (.int (m_left T k ((m_eS T S k) k))))) (⟨by omega, ((hxG).fp (show p ≤ (p + 3) ∧ (p + 3) ≤ p + 7 by omega)).fp (show p ≤ (p + 1) ∧ (p + 1) ≤ p + 7 by omega), (fp_ne (Or.inl (by omega))).trans ((fp_ne (Or.inl (by omega))).trans (hG7)), (fp_ne (Or.inl (by omega))).trans ((fp_ne (Or.inl (by omega))).trans (hG8)), (fp_ne (Or.inl (by omega))).trans ((fp_ne (Or.inl (by omega))).trans (hG9)), ((hE).ne (by omega)).up, (((hU).up).ne (by omega)).eq ((if_pos (Int32.not_le.mp c9)).symm), ((hG_2).ne (by omega)).ne (by omega), ((hG_4).ne (by omega)).ne (by omega), ((hG_5).ne (by omega)).ne (by omega), ((hG_6).ne (by omega)).ne (by omega), ((hG_7).ne (by omega)).ne (by omega)⟩)
set_option maxRecDepth 100000 in
set_option maxHeartbeats 4000000 in
theorem f_countApart {F : FW} {t p : Nat} {T : St} {S : Sh} (hT : TR F t T) (hS : SHR F p (t_m T) S) (j1 : t + 7 < p ∨ p + 7 < t) : Pm Z_X6_countApart [.ref p, .ref t] F (fun r F' => r = none ∧ FX (fun q => p ≤ q ∧ q ≤ p + 7) F F' ∧ SHR F' p (t_m T) (m_count T S)) := by
  refine Pm.of fun N => ?_
  obtain ⟨Q, hQ⟩ : ∃ Q : Option Value → FW → Prop, Q = (fun r F' => r = none ∧ FX (fun q => p ≤ q ∧ q ≤ p + 7) F F' ∧ SHR F' p (t_m T) (m_count T S)) := ⟨_, rfl⟩
  rw [← hQ]
  have b3 := hT.mb
  have b4 := hT.nb
  have b5 := hT.gb
  have b6 := m_from_lt S
  have b7 := hS.db
  refine (show Pv (ab_T L_X6_countApart) N 0 [some (.ref p), some (.ref t), none, none, none] [] F Q from ?_)
  refine Pv.lit rfl ?_
  refine Pv.istore (lo' := [some (.ref p), some (.ref t), some (.int 0), none, none]) rfl rfl ?_
  refine Pv.lp (ι := Nat × FW × (Option Value) × (Option Value)) (lof := fun ⟨k, G, o1, o2⟩ => [some (.ref p), some (.ref t), some (.int (Int32.ofNat k)), o1, o2]) (Ff := fun ⟨k, G, o1, o2⟩ => G) (P := fun ⟨k, G, o1, o2⟩ => (k ≤ t_m T) ∧ (FX (fun q => p ≤ q ∧ q ≤ p + 7) F G) ∧ (G.1 p 7 = Int32.ofNat (h_d S)) ∧ (G.1 p 8 = h_i S) ∧ (G.1 p 9 = h_r S) ∧ (AR G (p + 7) 64 (m_cP S k)) ∧ (AR G (p + 1) 12 (h_s S)) ∧ (AR G (p + 2) 12 (h_h S)) ∧ (AR G (p + 3) 12 (h_u S)) ∧ (AR G (p + 4) 12 (h_c S)) ∧ (AR G (p + 5) (t_m T) (h_a S)) ∧ (AR G (p + 6) (t_m T) (h_t S))) ?_ (0, F, none, none) (⟨Nat.zero_le _, FX.rf, hS.d, hS.i, hS.r, hS.p, hS.s, hS.h, hS.u, hS.c, hS.a, hS.t⟩)
  rintro N3 hN4 ⟨k, G, o1, o2⟩ hi5 ih6
  refine (show Pv _ _ 2 [some (.ref p), some (.ref t), some (.int (Int32.ofNat k)), o1, o2] [] G Q from ?_)
  obtain ⟨hk, hxG, hG7, hG8, hG9, hQ_, hG_1, hG_2, hG_3, hG_4, hG_5, hG_6⟩ := hi5
  have hx7 := hT.fx (P := fun q => p ≤ q ∧ q ≤ p + 7) hxG (fun q h1 h2 (c : p ≤ q ∧ q ≤ p + 7) => by omega)
  have hx8 := FX.O7 (P := fun q => p ≤ q ∧ q ≤ p + 7) hxG hS.o
  refine Pv.iloadS rfl rfl ?_
  refine Pv.aload rfl rfl ?_
  refine Pv.getI (z := Int32.ofNat (t_m T)) rfl rfl (hx7.m) ?_
  refine Pv.icmp rfl (fun c9 => ?_) (fun c9 => ?_)
  · skip
    replace c9 := (i_le (a := t_m T) (b := k) (by omega) (by omega)).mp (of_decide_eq_true c9)
    exact Pv.vret rfl (by rw [hQ]; exact ⟨rfl, hxG, hx8, hS.db, hG_1, hG_2, hG_3, hG_4, hG_5, hG_6, hQ_.eq (congrArg (m_cP S) (by omega)), hG7, hG8, hG9⟩)
  · skip
    replace c9 := mt (i_le (a := t_m T) (b := k) (by omega) (by omega)).mpr (of_decide_eq_false c9)
    refine Pv.lit rfl ?_
    refine Pv.istore (lo' := [some (.ref p), some (.ref t), some (.int (Int32.ofNat k)), some (.int 0), o2]) rfl rfl ?_
    refine Pv.lp (ι := Nat × FW × (Option Value)) (lof := fun ⟨o, G2, o10⟩ => [some (.ref p), some (.ref t), some (.int (Int32.ofNat k)), some (.int (Int32.ofNat o)), o10]) (Ff := fun ⟨o, G2, o10⟩ => G2) (P := fun ⟨o, G2, o10⟩ => (o ≤ k) ∧ (FX (fun q => p ≤ q ∧ q ≤ p + 7) F G2) ∧ (G2.1 p 7 = Int32.ofNat (h_d S)) ∧ (G2.1 p 8 = h_i S) ∧ (G2.1 p 9 = h_r S) ∧ (AR G2 (p + 7) 64 (m_cI S (m_cP S k) k o)) ∧ (AR G2 (p + 1) 12 (h_s S)) ∧ (AR G2 (p + 2) 12 (h_h S)) ∧ (AR G2 (p + 3) 12 (h_u S)) ∧ (AR G2 (p + 4) 12 (h_c S)) ∧ (AR G2 (p + 5) (t_m T) (h_a S)) ∧ (AR G2 (p + 6) (t_m T) (h_t S))) ?_ (0, G, o2) (⟨Nat.zero_le _, hxG, hG7, hG8, hG9, hQ_, hG_1, hG_2, hG_3, hG_4, hG_5, hG_6⟩)
    rintro N11 hN12 ⟨o, G2, o10⟩ hi13 ih14
    refine (show Pv _ _ 12 [some (.ref p), some (.ref t), some (.int (Int32.ofNat k)), some (.int (Int32.ofNat o)), o10] [] G2 Q from ?_)
    obtain ⟨ho, hxG2, hG27, hG28, hG29, hR_, hG2_1, hG2_2, hG2_3, hG2_4, hG2_5, hG2_6⟩ := hi13
    have hx15 := hT.fx (P := fun q => p ≤ q ∧ q ≤ p + 7) hxG2 (fun q h1 h2 (c : p ≤ q ∧ q ≤ p + 7) => by omega)
    have hx16 := FX.O7 (P := fun q => p ≤ q ∧ q ≤ p + 7) hxG2 hS.o
    refine Pv.iloadS rfl rfl ?_
    refine Pv.iload rfl rfl ?_
    refine Pv.icmp rfl (fun c17 => ?_) (fun c17 => ?_)
    · skip
      replace c17 := (i_le (a := k) (b := o) (by omega) (by omega)).mp (of_decide_eq_true c17)
      have eo : o = k := by omega
      rw [eo] at hR_
      refine Pv.iinc (y := Int32.ofNat (k + 1)) (lo' := [some (.ref p), some (.ref t), some (.int (Int32.ofNat (k + 1))), some (.int (Int32.ofNat o)), o10]) rfl rfl (i_add k 1) rfl ?_
      refine Pv.goto rfl ?_
      exact (ih6 (k + 1, G2, (some (.int (Int32.ofNat o))), o10) (⟨by omega, hxG2, hG27, hG28, hG29, hR_, hG2_1, hG2_2, hG2_3, hG2_4, hG2_5, hG2_6⟩)).mono (by omega)
    · skip
      replace c17 := mt (i_le (a := k) (b := o) (by omega) (by omega)).mpr (of_decide_eq_false c17)
      refine Pv.iload rfl rfl ?_
      refine Pv.lit rfl ?_
      refine Pv.bin (z := Int32.ofNat (k * 8)) rfl (i_mul k 8) ?_
      refine Pv.iload rfl rfl ?_
      refine Pv.bin (z := Int32.ofNat ((k * 8) + o)) rfl (i_add (k * 8) o) ?_
      refine Pv.istore (lo' := [some (.ref p), some (.ref t), some (.int (Int32.ofNat k)), some (.int (Int32.ofNat o)), some (.int (Int32.ofNat ((k * 8) + o)))]) rfl rfl ?_
      refine Pv.aload rfl rfl ?_
      refine Pv.getR (v := .ref (p + 5)) rfl rfl (hx16 4 (by decide)) ?_
      refine Pv.iload rfl rfl ?_
      refine Pv.ald (z := (h_a S) k) rfl (by rw [i_toNat (by omega)]; exact hG2_5 _ (by omega)) ?_
      refine Pv.aload rfl rfl ?_
      refine Pv.getR (v := .ref (p + 5)) rfl rfl (hx16 4 (by decide)) ?_
      refine Pv.iload rfl rfl ?_
      refine Pv.ald (z := (h_a S) o) rfl (by rw [i_toNat (by omega)]; exact hG2_5 _ (by omega)) ?_
      refine Pv.icmp rfl (fun c18 => ?_) (fun c18 => ?_)
      · skip
        replace c18 : decide ((h_a S) k = (h_a S) o) = false := by simpa using c18
        replace c18 := of_decide_eq_false c18
        refine Pv.aload rfl rfl ?_
        refine Pv.getR (v := .ref (p + 7)) rfl rfl (hx16 6 (by decide)) ?_
        refine Pv.iload rfl rfl ?_
        refine Pv.dup2 rfl ?_
        refine Pv.ald (z := (m_cI S (m_cP S k) k o) ((k * 8) + o)) rfl (by rw [i_toNat (by omega)]; exact hR_ _ (by omega)) ?_
        refine Pv.lit rfl ?_
        refine Pv.bin (z := ((m_cI S (m_cP S k) k o) ((k * 8) + o)) + 1) rfl (rfl) ?_
        refine Pv.astk (k := (k * 8) + o) (z := ((m_cI S (m_cP S k) k o) ((k * 8) + o)) + 1) rfl (i_toNat (by omega)) (rfl) ?_
        refine Pv.iinc (y := Int32.ofNat (o + 1)) (lo' := [some (.ref p), some (.ref t), some (.int (Int32.ofNat k)), some (.int (Int32.ofNat (o + 1))), some (.int (Int32.ofNat ((k * 8) + o)))]) rfl rfl (i_add o 1) rfl ?_
        refine Pv.goto rfl ?_
        exact ih14 (o + 1, (fp G2 (p + 7) ((k * 8) + o) (((m_cI S (m_cP S k) k o) ((k * 8) + o)) + 1)), (some (.int (Int32.ofNat ((k * 8) + o))))) (⟨by omega, (hxG2).fp (show p ≤ (p + 7) ∧ (p + 7) ≤ p + 7 by omega), (fp_ne (Or.inl (by omega))).trans (hG27), (fp_ne (Or.inl (by omega))).trans (hG28), (fp_ne (Or.inl (by omega))).trans (hG29), ((hR_).up).eq ((congrArg (up1 _ _) (if_neg c18).symm)), (hG2_1).ne (by omega), (hG2_2).ne (by omega), (hG2_3).ne (by omega), (hG2_4).ne (by omega), (hG2_5).ne (by omega), (hG2_6).ne (by omega)⟩)
      · skip
        replace c18 : decide ((h_a S) k = (h_a S) o) = true := by simpa using c18
        replace c18 := of_decide_eq_true c18
        refine Pv.aload rfl rfl ?_
        refine Pv.getR (v := .ref (p + 7)) rfl rfl (hx16 6 (by decide)) ?_
        refine Pv.iload rfl rfl ?_
        refine Pv.lit rfl ?_
        refine Pv.astk (k := (k * 8) + o) (z := 0) rfl (i_toNat (by omega)) (rfl) ?_
        refine Pv.goto rfl ?_
        refine Pv.iinc (y := Int32.ofNat (o + 1)) (lo' := [some (.ref p), some (.ref t), some (.int (Int32.ofNat k)), some (.int (Int32.ofNat (o + 1))), some (.int (Int32.ofNat ((k * 8) + o)))]) rfl rfl (i_add o 1) rfl ?_
        refine Pv.goto rfl ?_
        exact ih14 (o + 1, (fp G2 (p + 7) ((k * 8) + o) 0), (some (.int (Int32.ofNat ((k * 8) + o))))) (⟨by omega, (hxG2).fp (show p ≤ (p + 7) ∧ (p + 7) ≤ p + 7 by omega), (fp_ne (Or.inl (by omega))).trans (hG27), (fp_ne (Or.inl (by omega))).trans (hG28), (fp_ne (Or.inl (by omega))).trans (hG29), ((hR_).up).eq ((congrArg (up1 _ _) (if_pos c18).symm)), (hG2_1).ne (by omega), (hG2_2).ne (by omega), (hG2_3).ne (by omega), (hG2_4).ne (by omega), (hG2_5).ne (by omega), (hG2_6).ne (by omega)⟩)
set_option maxRecDepth 100000 in
set_option maxHeartbeats 4000000 in
theorem f_passDays {F : FW} {t p n : Nat} {T : St} {S : Sh} (hT : TR F t T) (hS : SHR F p (t_m T) S) (hG : GW F) (hn : n < 2147483648) (j1 : t + 7 < p ∨ p + 7 < t) (j2 : p + 7 < 7 ∨ 9 < p) (j3 : t + 7 < 7 ∨ 9 < t) : Pm Z_X1_passDays [.ref 7, .ref t, .ref p, .int (Int32.ofNat n)] F (fun r F' => r = some (.int (Int32.ofNat (h_d (m_days T S n)) - Int32.ofNat (h_d S))) ∧ FX (fun q => (p ≤ q ∧ q ≤ p + 7) ∨ (7 ≤ q ∧ q ≤ 9)) F F' ∧ SHR F' p (t_m T) (m_days T S n) ∧ ∀ i, n = i + 1 → h_d (m_days T S i) < 400 → PLN F' T (m_days T S i)) := by
  refine Pm.of fun N => ?_
  obtain ⟨Q, hQ⟩ : ∃ Q : Option Value → FW → Prop, Q = (fun r F' => r = some (.int (Int32.ofNat (h_d (m_days T S n)) - Int32.ofNat (h_d S))) ∧ FX (fun q => (p ≤ q ∧ q ≤ p + 7) ∨ (7 ≤ q ∧ q ≤ 9)) F F' ∧ SHR F' p (t_m T) (m_days T S n) ∧ ∀ i, n = i + 1 → h_d (m_days T S i) < 400 → PLN F' T (m_days T S i)) := ⟨_, rfl⟩
  rw [← hQ]
  have b3 := hT.mb
  have b4 := hT.nb
  have b5 := hT.gb
  have b6 := m_from_lt S
  have b7 := hS.db
  refine (show Pv (ab_T (L_X1_passDays Z_X1_plan Z_X1_carry Z_X6_makeAndEat Z_X6_countApart)) N 0 [some (.ref 7), some (.ref t), some (.ref p), some (.int (Int32.ofNat n)), none, none] [] F Q from ?_)
  refine Pv.aload rfl rfl ?_
  refine Pv.getI (z := Int32.ofNat (h_d S)) rfl rfl (hS.d) ?_
  refine Pv.istore (lo' := [some (.ref 7), some (.ref t), some (.ref p), some (.int (Int32.ofNat n)), some (.int (Int32.ofNat (h_d S))), none]) rfl rfl ?_
  refine Pv.lit rfl ?_
  refine Pv.istore (lo' := [some (.ref 7), some (.ref t), some (.ref p), some (.int (Int32.ofNat n)), some (.int (Int32.ofNat (h_d S))), some (.int 0)]) rfl rfl ?_
  refine Pv.lp (ι := Nat × FW) (lof := fun ⟨k, G⟩ => [some (.ref 7), some (.ref t), some (.ref p), some (.int (Int32.ofNat n)), some (.int (Int32.ofNat (h_d S))), some (.int (Int32.ofNat k))]) (Ff := fun ⟨k, G⟩ => G) (P := fun ⟨k, G⟩ => (k ≤ n) ∧ (FX (fun q => (p ≤ q ∧ q ≤ p + 7) ∨ (7 ≤ q ∧ q ≤ 9)) F G) ∧ (SHR G p (t_m T) (m_days T S k)) ∧ (∀ i, k = i + 1 → h_d (m_days T S i) < 400 ∧ PLN G T (m_days T S i))) ?_ (0, F) (⟨Nat.zero_le _, FX.rf, hS, fun i e => absurd e (by omega)⟩)
  rintro N1 hN2 ⟨k, G⟩ hi3 ih4
  refine (show Pv _ _ 9 [some (.ref 7), some (.ref t), some (.ref p), some (.int (Int32.ofNat n)), some (.int (Int32.ofNat (h_d S))), some (.int (Int32.ofNat k))] [] G Q from ?_)
  obtain ⟨hk, hxG, hD, hL⟩ := hi3
  have hx5 := hT.fx (P := fun q => (p ≤ q ∧ q ≤ p + 7) ∨ (7 ≤ q ∧ q ≤ 9)) hxG (fun q h1 h2 (c : (p ≤ q ∧ q ≤ p + 7) ∨ (7 ≤ q ∧ q ≤ 9)) => by omega)
  have hx6 := hG.fx (P := fun q => (p ≤ q ∧ q ≤ p + 7) ∨ (7 ≤ q ∧ q ≤ 9)) hxG
  refine Pv.iloadS rfl rfl ?_
  refine Pv.iload rfl rfl ?_
  refine Pv.icmp rfl (fun c7 => ?_) (fun c7 => ?_)
  · skip
    replace c7 := (i_le (a := n) (b := k) (by omega) (by omega)).mp (of_decide_eq_true c7)
    refine Pv.aload rfl rfl ?_
    refine Pv.getI (z := Int32.ofNat (h_d (m_days T S k))) rfl rfl (hD.d) ?_
    refine Pv.iload rfl rfl ?_
    refine Pv.bin (z := (Int32.ofNat (h_d (m_days T S k))) - (Int32.ofNat (h_d S))) rfl (rfl) ?_
    exact Pv.ret rfl (by rw [hQ]; exact ⟨by rw [show n = k by omega], hxG, by rw [show n = k by omega]; exact hD, fun i e _ => (hL i (by omega)).2⟩)
  · skip
    replace c7 := mt (i_le (a := n) (b := k) (by omega) (by omega)).mpr (of_decide_eq_false c7)
    have bD := hD.db
    refine Pv.aload rfl rfl ?_
    refine Pv.getI (z := Int32.ofNat (h_d (m_days T S k))) rfl rfl (hD.d) ?_
    refine Pv.lit rfl ?_
    refine Pv.icmp rfl (fun c8 => ?_) (fun c8 => ?_)
    · skip
      replace c8 := (i_le (a := 400) (b := h_d (m_days T S k)) (by omega) (by omega)).mp (of_decide_eq_true c8)
      refine Pv.aload rfl rfl ?_
      refine Pv.getI (z := Int32.ofNat (h_d (m_days T S k))) rfl rfl (hD.d) ?_
      refine Pv.iload rfl rfl ?_
      refine Pv.bin (z := (Int32.ofNat (h_d (m_days T S k))) - (Int32.ofNat (h_d S))) rfl (rfl) ?_
      exact Pv.ret rfl (by rw [hQ]; exact ⟨by rw [m_days_e (T := T) (S := S) (k := k) (n := n) (by omega) (by omega)], hxG, by rw [m_days_e (T := T) (S := S) (k := k) (n := n) (by omega) (by omega)]; exact hD, fun i e h => absurd h (by rw [m_days_e (T := T) (S := S) (k := k) (n := i) (by omega) (by omega)]; omega)⟩)
    · skip
      replace c8 := mt (i_le (a := 400) (b := h_d (m_days T S k)) (by omega) (by omega)).mpr (of_decide_eq_false c8)
      refine Pv.aload rfl rfl ?_
      refine Pv.aload rfl rfl ?_
      refine Pv.aload rfl rfl ?_
      refine Pv.callV (as := [.ref 7, .ref t, .ref p]) (rest := []) rfl rfl rfl (f_plan hx5 hD hx6 (by omega) (by omega)) ?_
      rintro _ G9 ⟨rfl, x10, pl12⟩
      have hx11 := FX.tr (P := fun q => (p ≤ q ∧ q ≤ p + 7) ∨ (7 ≤ q ∧ q ≤ 9)) hxG (x10.wd (fun q (c : 7 ≤ q ∧ q ≤ 9) => (show (p ≤ q ∧ q ≤ p + 7) ∨ (7 ≤ q ∧ q ≤ 9) by omega)))
      have hx13 := hx5.fx (P := fun q => 7 ≤ q ∧ q ≤ 9) x10 (fun q h1 h2 (c : 7 ≤ q ∧ q ≤ 9) => by omega)
      have hx14 := hD.fx (P := fun q => 7 ≤ q ∧ q ≤ 9) x10 (fun q h1 h2 (c : 7 ≤ q ∧ q ≤ 9) => by omega)
      have hx15 := hx6.fx (P := fun q => 7 ≤ q ∧ q ≤ 9) x10
      refine (show Pv _ _ 31 [some (.ref 7), some (.ref t), some (.ref p), some (.int (Int32.ofNat n)), some (.int (Int32.ofNat (h_d S))), some (.int (Int32.ofNat k))] [] G9 Q from ?_)
      refine Pv.aload rfl rfl ?_
      refine Pv.aload rfl rfl ?_
      refine Pv.aload rfl rfl ?_
      refine Pv.callV (as := [.ref 7, .ref t, .ref p]) (rest := []) rfl rfl rfl (f_carry hx13 hx14 hx15 pl12 (by omega) (by omega)) ?_
      rintro _ G16 ⟨rfl, x17, sr19⟩
      have hx18 := FX.tr (P := fun q => (p ≤ q ∧ q ≤ p + 7) ∨ (7 ≤ q ∧ q ≤ 9)) hx11 (x17.wd (fun q (c : p ≤ q ∧ q ≤ p + 7) => (show (p ≤ q ∧ q ≤ p + 7) ∨ (7 ≤ q ∧ q ≤ 9) by omega)))
      have hx20 := hx13.fx (P := fun q => p ≤ q ∧ q ≤ p + 7) x17 (fun q h1 h2 (c : p ≤ q ∧ q ≤ p + 7) => by omega)
      have hx21 := hx15.fx (P := fun q => p ≤ q ∧ q ≤ p + 7) x17
      refine (show Pv _ _ 37 [some (.ref 7), some (.ref t), some (.ref p), some (.int (Int32.ofNat n)), some (.int (Int32.ofNat (h_d S))), some (.int (Int32.ofNat k))] [] G16 Q from ?_)
      refine Pv.aload rfl rfl ?_
      refine Pv.aload rfl rfl ?_
      refine Pv.callV (as := [.ref p, .ref t]) (rest := []) rfl rfl rfl (f_makeAndEat hx20 sr19 (by omega)) ?_
      rintro _ G22 ⟨rfl, x23, sr25⟩
      have hx24 := FX.tr (P := fun q => (p ≤ q ∧ q ≤ p + 7) ∨ (7 ≤ q ∧ q ≤ 9)) hx18 (x23.wd (fun q (c : p ≤ q ∧ q ≤ p + 7) => (show (p ≤ q ∧ q ≤ p + 7) ∨ (7 ≤ q ∧ q ≤ 9) by omega)))
      have hx26 := hx20.fx (P := fun q => p ≤ q ∧ q ≤ p + 7) x23 (fun q h1 h2 (c : p ≤ q ∧ q ≤ p + 7) => by omega)
      have hx27 := hx21.fx (P := fun q => p ≤ q ∧ q ≤ p + 7) x23
      refine (show Pv _ _ 42 [some (.ref 7), some (.ref t), some (.ref p), some (.int (Int32.ofNat n)), some (.int (Int32.ofNat (h_d S))), some (.int (Int32.ofNat k))] [] G22 Q from ?_)
      refine Pv.aload rfl rfl ?_
      refine Pv.aload rfl rfl ?_
      refine Pv.callV (as := [.ref p, .ref t]) (rest := []) rfl rfl rfl (f_countApart hx26 sr25 (by omega)) ?_
      rintro _ G28 ⟨rfl, x29, sr31⟩
      have hx30 := FX.tr (P := fun q => (p ≤ q ∧ q ≤ p + 7) ∨ (7 ≤ q ∧ q ≤ 9)) hx24 (x29.wd (fun q (c : p ≤ q ∧ q ≤ p + 7) => (show (p ≤ q ∧ q ≤ p + 7) ∨ (7 ≤ q ∧ q ≤ 9) by omega)))
      have hx32 := hx26.fx (P := fun q => p ≤ q ∧ q ≤ p + 7) x29 (fun q h1 h2 (c : p ≤ q ∧ q ≤ p + 7) => by omega)
      have hx33 := hx27.fx (P := fun q => p ≤ q ∧ q ≤ p + 7) x29
      refine (show Pv _ _ 47 [some (.ref 7), some (.ref t), some (.ref p), some (.int (Int32.ofNat n)), some (.int (Int32.ofNat (h_d S))), some (.int (Int32.ofNat k))] [] G28 Q from ?_)
      refine Pv.aload rfl rfl ?_
      refine Pv.dup rfl ?_
      refine Pv.getI (z := Int32.ofNat (h_d (m_count T (m_eat T (m_carry T (m_days T S k)))))) rfl rfl (sr31.d) ?_
      refine Pv.lit rfl ?_
      refine Pv.bin (z := Int32.ofNat ((h_d (m_count T (m_eat T (m_carry T (m_days T S k))))) + 1)) rfl (i_add (h_d (m_count T (m_eat T (m_carry T (m_days T S k))))) 1) ?_
      refine Pv.putI rfl rfl ?_
      have ed : m_days T S (k + 1) = m_day T (m_days T S k) := m_days_s (by omega)
      have hDn : SHR (fp G28 p 7 (Int32.ofNat ((h_d (m_count T (m_eat T (m_carry T (m_days T S k))))) + 1))) p (t_m T) (m_days T S (k + 1)) := by
        rw [ed]
        exact ⟨sr31.o, (show h_d (m_days T S k) + 1 ≤ 400 by omega), (sr31.s).ne (by omega), (sr31.h).ne (by omega), (sr31.u).ne (by omega), (sr31.c).ne (by omega), (sr31.a).ne (by omega), (sr31.t).ne (by omega), (sr31.p).ne (by omega), fp_eq, (fp_ne (Or.inr (by decide))).trans (sr31.i), (fp_ne (Or.inr (by decide))).trans (sr31.r)⟩
      have hLn : ∀ i, k + 1 = i + 1 → h_d (m_days T S i) < 400 ∧ PLN (fp G28 p 7 (Int32.ofNat ((h_d (m_count T (m_eat T (m_carry T (m_days T S k))))) + 1))) T (m_days T S i) := fun i e => by
        obtain rfl : k = i := by omega
        exact ⟨by omega, (PLN.fx (P := fun q => p ≤ q ∧ q ≤ p + 7) pl12 (((FX.tr (P := fun q => p ≤ q ∧ q ≤ p + 7) (FX.tr (P := fun q => p ≤ q ∧ q ≤ p + 7) x17 x23) x29)).fp ⟨by omega, by omega⟩) (fun q h1 h2 (c : p ≤ q ∧ q ≤ p + 7) => by omega))⟩
      refine Pv.iinc (y := Int32.ofNat (k + 1)) (lo' := [some (.ref 7), some (.ref t), some (.ref p), some (.int (Int32.ofNat n)), some (.int (Int32.ofNat (h_d S))), some (.int (Int32.ofNat (k + 1)))]) rfl rfl (i_add k 1) rfl ?_
      refine Pv.goto rfl ?_
      exact ih4 (k + 1, (fp G28 p 7 (Int32.ofNat ((h_d (m_count T (m_eat T (m_carry T (m_days T S k))))) + 1)))) (⟨by omega, (hx30).fp (show (p ≤ p ∧ p ≤ p + 7) ∨ (7 ≤ p ∧ p ≤ 9) by omega), hDn, hLn⟩)
