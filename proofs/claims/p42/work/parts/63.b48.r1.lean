set_option maxRecDepth 100000 in
set_option maxHeartbeats 4000000 in
theorem g_cell {F : FW} {g s : Nat} : Pm Z_X11_cell [.int (Int32.ofNat g), .int (Int32.ofNat s)] F (fun r F' => r = some (.int (Int32.ofNat (2 * g + s))) ∧ F' = F) := by
  refine Pm.of fun N => ?_
  obtain ⟨Q, hQ⟩ : ∃ Q : Option Value → FW → Prop, Q = (fun r F' => r = some (.int (Int32.ofNat (2 * g + s))) ∧ F' = F) := ⟨_, rfl⟩
  rw [← hQ]
  refine (show Pv (ab_T L_X11_cell) N 0 [some (.int (Int32.ofNat g)), some (.int (Int32.ofNat s))] [] F Q from ?_)
  refine Pv.lit rfl ?_
  refine Pv.iload rfl rfl ?_
  refine Pv.bin (z := Int32.ofNat (2 * g)) rfl (i_mul 2 g) ?_
  refine Pv.iload rfl rfl ?_
  refine Pv.bin (z := Int32.ofNat ((2 * g) + s)) rfl (i_add (2 * g) s) ?_
  exact Pv.ret rfl (by rw [hQ]; exact ⟨rfl, rfl⟩)
set_option maxRecDepth 100000 in
set_option maxHeartbeats 4000000 in
theorem g_lesser {F : FW} {x y : Int32} : Pm Z_X11_lesser [.int x, .int y] F (fun r F' => r = some (.int (m_less x y)) ∧ F' = F) := by
  refine Pm.of fun N => ?_
  obtain ⟨Q, hQ⟩ : ∃ Q : Option Value → FW → Prop, Q = (fun r F' => r = some (.int (m_less x y)) ∧ F' = F) := ⟨_, rfl⟩
  rw [← hQ]
  refine (show Pv (ab_T L_X11_lesser) N 0 [some (.int x), some (.int y)] [] F Q from ?_)
  refine Pv.iload rfl rfl ?_
  refine Pv.iload rfl rfl ?_
  refine Pv.icmp rfl (fun c1 => ?_) (fun c1 => ?_)
  · skip
    replace c1 := of_decide_eq_true c1
    refine Pv.iload rfl rfl ?_
    exact Pv.ret rfl (by rw [hQ]; exact ⟨by unfold m_less; rw [if_pos c1], rfl⟩)
  · skip
    replace c1 := of_decide_eq_false c1
    refine Pv.iload rfl rfl ?_
    refine Pv.goto rfl ?_
    exact Pv.ret rfl (by rw [hQ]; exact ⟨by unfold m_less; rw [if_neg c1], rfl⟩)
set_option maxRecDepth 100000 in
set_option maxHeartbeats 4000000 in
theorem g_bitOf {F : FW} {x : Int32} {k : Nat} : Pm Z_X11_bitOf [.int x, .int (Int32.ofNat k)] F (fun r F' => r = some (.int (b2i (xbit x k))) ∧ F' = F) := by
  refine Pm.of fun N => ?_
  obtain ⟨Q, hQ⟩ : ∃ Q : Option Value → FW → Prop, Q = (fun r F' => r = some (.int (b2i (xbit x k))) ∧ F' = F) := ⟨_, rfl⟩
  rw [← hQ]
  refine (show Pv (ab_T L_X11_bitOf) N 0 [some (.int x), some (.int (Int32.ofNat k))] [] F Q from ?_)
  refine Pv.iload rfl rfl ?_
  refine Pv.iload rfl rfl ?_
  refine Pv.bin (z := x >>> ((Int32.ofNat k) &&& 31)) rfl (rfl) ?_
  refine Pv.lit rfl ?_
  refine Pv.bin (z := (x >>> ((Int32.ofNat k) &&& 31)) &&& 1) rfl (rfl) ?_
  refine Pv.lit rfl ?_
  refine Pv.icmp rfl (fun c1 => ?_) (fun c1 => ?_)
  · skip
    replace c1 : decide ((x >>> ((Int32.ofNat k) &&& 31)) &&& 1 = 1) = false := by simpa using c1
    replace c1 := of_decide_eq_false c1
    refine Pv.lit rfl ?_
    exact Pv.zret rfl (by rw [hQ]; exact ⟨b2_f (by simp [xbit, c1]), rfl⟩)
  · skip
    replace c1 : decide ((x >>> ((Int32.ofNat k) &&& 31)) &&& 1 = 1) = true := by simpa using c1
    replace c1 := of_decide_eq_true c1
    refine Pv.lit rfl ?_
    refine Pv.goto rfl ?_
    exact Pv.zret rfl (by rw [hQ]; exact ⟨b2_t (by simp [xbit, c1]), rfl⟩)
set_option maxRecDepth 100000 in
set_option maxHeartbeats 4000000 in
theorem g_isDead {F : FW} {n m o : Nat} {S : Sh} (hX : XD F n S) (hG : GW F) (hm : m < n) : Pm Z_X11_isDead [.ref 69, .int (Int32.ofNat m)] F (fun r F' => r = some (.int (b2i (!m_alive S m))) ∧ F' = F) := by
  refine Pm.of fun N => ?_
  obtain ⟨Q, hQ⟩ : ∃ Q : Option Value → FW → Prop, Q = (fun r F' => r = some (.int (b2i (!m_alive S m))) ∧ F' = F) := ⟨_, rfl⟩
  rw [← hQ]
  refine (show Pv (ab_T (L_X11_isDead Z_X11_bitOf)) N 0 [some (.ref 69), some (.int (Int32.ofNat m))] [] F Q from ?_)
  refine Pv.aload rfl rfl ?_
  refine Pv.getR (v := .ref 71) rfl rfl (GW.at (a := 69) (k := 6) (b := 71) hG (by decide)) ?_
  refine Pv.lit rfl ?_
  refine Pv.ald (z := F.1 71 180) rfl (rfl) ?_
  refine Pv.iload rfl rfl ?_
  refine Pv.callI (as := [.int (F.1 71 180), .int (Int32.ofNat m)]) (rest := []) (z := b2i (xbit (F.1 71 180) m)) rfl rfl rfl (g_bitOf (x := F.1 71 180) (k := m)) ?_
  exact Pv.zret rfl (by rw [hQ]; exact ⟨by rw [hX.de hm], rfl⟩)
set_option maxRecDepth 100000 in
set_option maxHeartbeats 4000000 in
theorem g_areUnlike {F : FW} {n m o : Nat} {S : Sh} (hX : XD F n S) (hG : GW F) (hm : m < n) (ho : o < n) (hn : n ≤ 8) : Pm Z_X11_areUnlike [.ref 69, .int (Int32.ofNat m), .int (Int32.ofNat o)] F (fun r F' => r = some (.int (b2i (m_unl S m o))) ∧ F' = F) := by
  refine Pm.of fun N => ?_
  obtain ⟨Q, hQ⟩ : ∃ Q : Option Value → FW → Prop, Q = (fun r F' => r = some (.int (b2i (m_unl S m o))) ∧ F' = F) := ⟨_, rfl⟩
  rw [← hQ]
  refine (show Pv (ab_T (L_X11_areUnlike Z_X11_isDead)) N 0 [some (.ref 69), some (.int (Int32.ofNat m)), some (.int (Int32.ofNat o))] [] F Q from ?_)
  refine Pv.aload rfl rfl ?_
  refine Pv.iload rfl rfl ?_
  refine Pv.callVI (as := [.ref 69, .int (Int32.ofNat m)]) (rest := []) (z := b2i (!m_alive S m)) rfl rfl rfl (g_isDead (o := 0) (m := m) hX hG (by omega)) ?_
  refine Pv.if0 rfl (fun c1 => ?_) (fun c1 => ?_)
  · skip
    replace c1 : decide (b2i (!m_alive S m) = 0) = false := by simpa using c1
    replace c1 := of_decide_eq_false c1
    replace c1 := b2n.mp c1
    refine Pv.lit rfl ?_
    exact Pv.zret rfl (by rw [hQ]; exact ⟨b2_f (by have := c1; simp at this; simp [m_unl, this]), rfl⟩)
  · skip
    replace c1 : decide (b2i (!m_alive S m) = 0) = true := by simpa using c1
    replace c1 := of_decide_eq_true c1
    replace c1 := b2z.mp c1
    have a1 : m_alive S m = true := by simpa using c1
    refine Pv.aload rfl rfl ?_
    refine Pv.iload rfl rfl ?_
    refine Pv.callVI (as := [.ref 69, .int (Int32.ofNat o)]) (rest := []) (z := b2i (!m_alive S o)) rfl rfl rfl (g_isDead (o := 0) (m := o) hX hG (by omega)) ?_
    refine Pv.if0 rfl (fun c2 => ?_) (fun c2 => ?_)
    · skip
      replace c2 : decide (b2i (!m_alive S o) = 0) = false := by simpa using c2
      replace c2 := of_decide_eq_false c2
      replace c2 := b2n.mp c2
      refine Pv.lit rfl ?_
      exact Pv.zret rfl (by rw [hQ]; exact ⟨b2_f (by have := c2; simp at this; simp [m_unl, this]), rfl⟩)
    · skip
      replace c2 : decide (b2i (!m_alive S o) = 0) = true := by simpa using c2
      replace c2 := of_decide_eq_true c2
      replace c2 := b2z.mp c2
      have a2 : m_alive S o = true := by simpa using c2
      refine Pv.aload rfl rfl ?_
      refine Pv.getR (v := .ref 71) rfl rfl (GW.at (a := 69) (k := 6) (b := 71) hG (by decide)) ?_
      refine Pv.lit rfl ?_
      refine Pv.iload rfl rfl ?_
      refine Pv.bin (z := Int32.ofNat (172 + m)) rfl (i_add 172 m) ?_
      refine Pv.ald (z := h_a S m) rfl (by rw [i_toNat (by omega)]; exact hX.a (by omega) a1) ?_
      refine Pv.aload rfl rfl ?_
      refine Pv.getR (v := .ref 71) rfl rfl (GW.at (a := 69) (k := 6) (b := 71) hG (by decide)) ?_
      refine Pv.lit rfl ?_
      refine Pv.iload rfl rfl ?_
      refine Pv.bin (z := Int32.ofNat (172 + o)) rfl (i_add 172 o) ?_
      refine Pv.ald (z := h_a S o) rfl (by rw [i_toNat (by omega)]; exact hX.a (by omega) a2) ?_
      refine Pv.icmp rfl (fun c3 => ?_) (fun c3 => ?_)
      · skip
        replace c3 := of_decide_eq_true c3
        refine Pv.lit rfl ?_
        exact Pv.zret rfl (by rw [hQ]; exact ⟨b2_f (by simp [m_unl, a1, a2, c3]), rfl⟩)
      · skip
        replace c3 := of_decide_eq_false c3
        refine Pv.lit rfl ?_
        refine Pv.goto rfl ?_
        exact Pv.zret rfl (by rw [hQ]; exact ⟨b2_t (by simp [m_unl, a1, a2, c3]), rfl⟩)
set_option maxRecDepth 100000 in
set_option maxHeartbeats 4000000 in
theorem g_doesMiss {F : FW} {m o : Nat} {T : St} {S : Sh} (hT : XT F T) (hS : XS F (t_m T) S) (hG : GW F) (hm : m < t_m T) (ho : o < t_m T) : Pm Z_X11_doesMiss [.ref 69, .int (Int32.ofNat m), .int (Int32.ofNat o)] F (fun r F' => r = some (.int (b2i (m_does T S m o))) ∧ F' = F) := by
  refine Pm.of fun N => ?_
  obtain ⟨Q, hQ⟩ : ∃ Q : Option Value → FW → Prop, Q = (fun r F' => r = some (.int (b2i (m_does T S m o))) ∧ F' = F) := ⟨_, rfl⟩
  rw [← hQ]
  have b3 := hT.mb
  have b4 := hT.nb
  have b5 := hT.gb
  have b6 := m_from_lt S
  have b7 := hS.db
  refine (show Pv (ab_T (L_X11_doesMiss Z_X11_areUnlike)) N 0 [some (.ref 69), some (.int (Int32.ofNat m)), some (.int (Int32.ofNat o)), none] [] F Q from ?_)
  refine Pv.aload rfl rfl ?_
  refine Pv.iload rfl rfl ?_
  refine Pv.iload rfl rfl ?_
  refine Pv.callVI (as := [.ref 69, .int (Int32.ofNat m), .int (Int32.ofNat o)]) (rest := []) (z := b2i (m_unl S m o)) rfl rfl rfl (g_areUnlike (m := m) (o := o) hS.xd hG (by omega) (by omega) (by omega)) ?_
  refine Pv.if0 rfl (fun c1 => ?_) (fun c1 => ?_)
  · skip
    replace c1 : decide (b2i (m_unl S m o) = 0) = false := by simpa using c1
    replace c1 := of_decide_eq_false c1
    replace c1 := b2n.mp c1
    have u1 := c1
    have u2 : m_alive S m = true ∧ m_alive S o = true ∧ ¬ h_a S m = h_a S o := by simpa [m_unl, and_assoc] using u1
    obtain ⟨a1, a2, a3⟩ := u2
    have hne : m ≠ o := fun e => a3 (by rw [e])
    refine Pv.lit rfl ?_
    refine Pv.istore (lo' := [some (.ref 69), some (.int (Int32.ofNat m)), some (.int (Int32.ofNat o)), some (.int 0)]) rfl rfl ?_
    refine Pv.lp (ι := Nat) (lof := fun k => [some (.ref 69), some (.int (Int32.ofNat m)), some (.int (Int32.ofNat o)), some (.int (Int32.ofNat k))]) (Ff := fun k => F) (P := fun k => k ≤ t_n T ∧ m_first T m o k = none) ?_ 0 (⟨Nat.zero_le _, rfl⟩)
    rintro N2 hN3 k hi4 ih5
    refine (show Pv _ _ 13 [some (.ref 69), some (.int (Int32.ofNat m)), some (.int (Int32.ofNat o)), some (.int (Int32.ofNat k))] [] F Q from ?_)
    obtain ⟨hk, hb⟩ := hi4
    refine Pv.iloadS rfl rfl ?_
    refine Pv.aload rfl rfl ?_
    refine Pv.getR (v := .ref 71) rfl rfl (GW.at (a := 69) (k := 6) (b := 71) hG (by decide)) ?_
    refine Pv.lit rfl ?_
    refine Pv.ald (z := Int32.ofNat (t_n T)) rfl (hT.n) ?_
    refine Pv.icmp rfl (fun c6 => ?_) (fun c6 => ?_)
    · skip
      replace c6 := (i_le (a := t_n T) (b := k) (by omega) (by omega)).mp (of_decide_eq_true c6)
      refine Pv.lit rfl ?_
      exact Pv.zret rfl (by rw [hQ]; exact ⟨b2_f (by unfold m_does; rw [show t_n T = k by omega, hb]; simp), rfl⟩)
    · skip
      replace c6 := mt (i_le (a := t_n T) (b := k) (by omega) (by omega)).mpr (of_decide_eq_false c6)
      have b1 := hT.rb (show k < t_n T by omega)
      have b2 := hT.db (show k < t_n T by omega)
      refine Pv.aload rfl rfl ?_
      refine Pv.getR (v := .ref 71) rfl rfl (GW.at (a := 69) (k := 6) (b := 71) hG (by decide)) ?_
      refine Pv.lit rfl ?_
      refine Pv.iload rfl rfl ?_
      refine Pv.bin (z := Int32.ofNat (60 + k)) rfl (i_add 60 k) ?_
      refine Pv.ald (z := Int32.ofNat (t_r T k)) rfl (by rw [i_toNat (by omega)]; exact hT.r _ (by omega)) ?_
      refine Pv.iload rfl rfl ?_
      refine Pv.icmp rfl (fun c7 => ?_) (fun c7 => ?_)
      · skip
        replace c7 : decide (Int32.ofNat (t_r T k) = Int32.ofNat m) = false := by simpa using c7
        replace c7 := mt (i_eq (a := t_r T k) (b := m) (by omega) (by omega)).mpr (of_decide_eq_false c7)
        refine Pv.iinc (y := Int32.ofNat (k + 1)) (lo' := [some (.ref 69), some (.int (Int32.ofNat m)), some (.int (Int32.ofNat o)), some (.int (Int32.ofNat (k + 1)))]) rfl rfl (i_add k 1) rfl ?_
        refine Pv.goto rfl ?_
        exact ih5 (k + 1) (⟨by omega, m_first_n hb (fun q => absurd q.1 (by omega))⟩)
      · skip
        replace c7 : decide (Int32.ofNat (t_r T k) = Int32.ofNat m) = true := by simpa using c7
        replace c7 := (i_eq (a := t_r T k) (b := m) (by omega) (by omega)).mp (of_decide_eq_true c7)
        refine Pv.aload rfl rfl ?_
        refine Pv.getR (v := .ref 71) rfl rfl (GW.at (a := 69) (k := 6) (b := 71) hG (by decide)) ?_
        refine Pv.lit rfl ?_
        refine Pv.iload rfl rfl ?_
        refine Pv.bin (z := Int32.ofNat (80 + k)) rfl (i_add 80 k) ?_
        refine Pv.ald (z := Int32.ofNat (t_d T k)) rfl (by rw [i_toNat (by omega)]; exact hT.d _ (by omega)) ?_
        refine Pv.iload rfl rfl ?_
        refine Pv.icmp rfl (fun c8 => ?_) (fun c8 => ?_)
        · skip
          replace c8 : decide (Int32.ofNat (t_d T k) = Int32.ofNat o) = false := by simpa using c8
          replace c8 := mt (i_eq (a := t_d T k) (b := o) (by omega) (by omega)).mpr (of_decide_eq_false c8)
          refine Pv.iinc (y := Int32.ofNat (k + 1)) (lo' := [some (.ref 69), some (.int (Int32.ofNat m)), some (.int (Int32.ofNat o)), some (.int (Int32.ofNat (k + 1)))]) rfl rfl (i_add k 1) rfl ?_
          refine Pv.goto rfl ?_
          exact ih5 (k + 1) (⟨by omega, m_first_n hb (fun q => absurd q.2 (by omega))⟩)
        · skip
          replace c8 : decide (Int32.ofNat (t_d T k) = Int32.ofNat o) = true := by simpa using c8
          replace c8 := (i_eq (a := t_d T k) (b := o) (by omega) (by omega)).mp (of_decide_eq_true c8)
          refine Pv.aload rfl rfl ?_
          refine Pv.getR (v := .ref 71) rfl rfl (GW.at (a := 69) (k := 6) (b := 71) hG (by decide)) ?_
          refine Pv.lit rfl ?_
          refine Pv.lit rfl ?_
          refine Pv.iload rfl rfl ?_
          refine Pv.bin (z := Int32.ofNat (8 * m)) rfl (i_mul 8 m) ?_
          refine Pv.bin (z := Int32.ofNat (189 + (8 * m))) rfl (i_add 189 (8 * m)) ?_
          refine Pv.iload rfl rfl ?_
          refine Pv.bin (z := Int32.ofNat ((189 + (8 * m)) + o)) rfl (i_add (189 + (8 * m)) o) ?_
          refine Pv.ald (z := m_apart S m o) rfl (by rw [i_toNat (by omega)]; exact hS.p (by omega) (by omega) hne a1 a2) ?_
          refine Pv.aload rfl rfl ?_
          refine Pv.getR (v := .ref 71) rfl rfl (GW.at (a := 69) (k := 6) (b := 71) hG (by decide)) ?_
          refine Pv.lit rfl ?_
          refine Pv.iload rfl rfl ?_
          refine Pv.bin (z := Int32.ofNat (100 + k)) rfl (i_add 100 k) ?_
          refine Pv.ald (z := t_dd T k) rfl (by rw [i_toNat (by omega)]; exact hT.dd _ (by omega)) ?_
          refine Pv.icmp rfl (fun c9 => ?_) (fun c9 => ?_)
          · skip
            replace c9 := of_decide_eq_true c9
            refine Pv.lit rfl ?_
            exact Pv.zret rfl (by rw [hQ]; exact ⟨b2_f (by unfold m_does; rw [m_first_e hb c7 c8 (by omega)]; simp [u1, c9]), rfl⟩)
          · skip
            replace c9 := of_decide_eq_false c9
            refine Pv.lit rfl ?_
            refine Pv.goto rfl ?_
            exact Pv.zret rfl (by rw [hQ]; exact ⟨b2_t (by unfold m_does; rw [m_first_e hb c7 c8 (by omega)]; simp [u1, c9]), rfl⟩)
  · skip
    replace c1 : decide (b2i (m_unl S m o) = 0) = true := by simpa using c1
    replace c1 := of_decide_eq_true c1
    replace c1 := b2z.mp c1
    refine Pv.lit rfl ?_
    exact Pv.zret rfl (by rw [hQ]; exact ⟨b2_f (by unfold m_does; simp [c1]), rfl⟩)
set_option maxRecDepth 100000 in
set_option maxHeartbeats 4000000 in
theorem g_missedBy {F : FW} {o : Nat} {T : St} {S : Sh} (hT : XT F T) (hS : XS F (t_m T) S) (hG : GW F) (ho : o < t_m T) : Pm Z_X11_missedBy [.ref 69, .int (Int32.ofNat o)] F (fun r F' => r = some (.int (m_bits (fun m => m_does T S m o) id (t_m T))) ∧ F' = F) := by
  refine Pm.of fun N => ?_
  obtain ⟨Q, hQ⟩ : ∃ Q : Option Value → FW → Prop, Q = (fun r F' => r = some (.int (m_bits (fun m => m_does T S m o) id (t_m T))) ∧ F' = F) := ⟨_, rfl⟩
  rw [← hQ]
  have b3 := hT.mb
  have b4 := hT.nb
  have b5 := hT.gb
  have b6 := m_from_lt S
  have b7 := hS.db
  refine (show Pv (ab_T (L_X11_missedBy Z_X11_doesMiss)) N 0 [some (.ref 69), some (.int (Int32.ofNat o)), none, none] [] F Q from ?_)
  refine Pv.lit rfl ?_
  refine Pv.istore (lo' := [some (.ref 69), some (.int (Int32.ofNat o)), some (.int 0), none]) rfl rfl ?_
  refine Pv.lit rfl ?_
  refine Pv.istore (lo' := [some (.ref 69), some (.int (Int32.ofNat o)), some (.int 0), some (.int 0)]) rfl rfl ?_
  refine Pv.lp (ι := Nat × Int32) (lof := fun ⟨k, b⟩ => [some (.ref 69), some (.int (Int32.ofNat o)), some (.int b), some (.int (Int32.ofNat k))]) (Ff := fun ⟨k, b⟩ => F) (P := fun ⟨k, b⟩ => k ≤ t_m T ∧ b = m_bits (fun m => m_does T S m o) id k) ?_ (0, 0) (⟨Nat.zero_le _, rfl⟩)
  rintro N1 hN2 ⟨k, b⟩ hi3 ih4
  refine (show Pv _ _ 4 [some (.ref 69), some (.int (Int32.ofNat o)), some (.int b), some (.int (Int32.ofNat k))] [] F Q from ?_)
  obtain ⟨hk, hb⟩ := hi3
  refine Pv.iloadS rfl rfl ?_
  refine Pv.aload rfl rfl ?_
  refine Pv.getR (v := .ref 71) rfl rfl (GW.at (a := 69) (k := 6) (b := 71) hG (by decide)) ?_
  refine Pv.lit rfl ?_
  refine Pv.ald (z := Int32.ofNat (t_m T)) rfl (hT.m) ?_
  refine Pv.icmp rfl (fun c5 => ?_) (fun c5 => ?_)
  · skip
    replace c5 := (i_le (a := t_m T) (b := k) (by omega) (by omega)).mp (of_decide_eq_true c5)
    refine Pv.iload rfl rfl ?_
    exact Pv.ret rfl (by rw [hQ]; exact ⟨by rw [hb, show k = t_m T by omega], rfl⟩)
  · skip
    replace c5 := mt (i_le (a := t_m T) (b := k) (by omega) (by omega)).mpr (of_decide_eq_false c5)
    refine Pv.iload rfl rfl ?_
    refine Pv.aload rfl rfl ?_
    refine Pv.iload rfl rfl ?_
    refine Pv.iload rfl rfl ?_
    refine Pv.callVI (as := [.ref 69, .int (Int32.ofNat k), .int (Int32.ofNat o)]) (rest := [.int b]) (z := b2i (m_does T S k o)) rfl rfl rfl (g_doesMiss (m := k) (o := o) hT hS hG (by omega) (by omega)) ?_
    refine Pv.if0 rfl (fun c6 => ?_) (fun c6 => ?_)
    · skip
      replace c6 := of_decide_eq_true c6
      replace c6 := b2z.mp c6
      refine Pv.lit rfl ?_
      refine Pv.bin (z := b ||| 0) rfl (rfl) ?_
      refine Pv.istore (lo' := [some (.ref 69), some (.int (Int32.ofNat o)), some (.int (b ||| 0)), some (.int (Int32.ofNat k))]) rfl rfl ?_
      refine Pv.iinc (y := Int32.ofNat (k + 1)) (lo' := [some (.ref 69), some (.int (Int32.ofNat o)), some (.int (b ||| 0)), some (.int (Int32.ofNat (k + 1)))]) rfl rfl (i_add k 1) rfl ?_
      refine Pv.goto rfl ?_
      exact ih4 (k + 1, b ||| 0) (⟨by omega, by rw [m_bits_f (f := (fun m => m_does T S m o)) (g := id) (k := k) (by simp [c6]), ← hb]; exact i_or0 _⟩)
    · skip
      replace c6 := of_decide_eq_false c6
      replace c6 := b2n.mp c6
      refine Pv.lit rfl ?_
      refine Pv.iload rfl rfl ?_
      refine Pv.bin (z := 1 <<< ((Int32.ofNat k) &&& 31)) rfl (rfl) ?_
      refine Pv.goto rfl ?_
      refine Pv.bin (z := b ||| (1 <<< ((Int32.ofNat k) &&& 31))) rfl (rfl) ?_
      refine Pv.istore (lo' := [some (.ref 69), some (.int (Int32.ofNat o)), some (.int (b ||| (1 <<< ((Int32.ofNat k) &&& 31)))), some (.int (Int32.ofNat k))]) rfl rfl ?_
      refine Pv.iinc (y := Int32.ofNat (k + 1)) (lo' := [some (.ref 69), some (.int (Int32.ofNat o)), some (.int (b ||| (1 <<< ((Int32.ofNat k) &&& 31)))), some (.int (Int32.ofNat (k + 1)))]) rfl rfl (i_add k 1) rfl ?_
      refine Pv.goto rfl ?_
      exact ih4 (k + 1, b ||| (1 <<< ((Int32.ofNat k) &&& 31))) (⟨by omega, by rw [m_bits_t (f := (fun m => m_does T S m o)) (g := id) (k := k) (by simp [c6]), hb]; rfl⟩)
set_option maxRecDepth 100000 in
set_option maxHeartbeats 4000000 in
theorem g_missesOf {F : FW} {m : Nat} {T : St} {S : Sh} (hT : XT F T) (hS : XS F (t_m T) S) (hG : GW F) (hm : m < t_m T) : Pm Z_X11_missesOf [.ref 69, .int (Int32.ofNat m)] F (fun r F' => r = some (.int (m_bits (fun o => m_does T S m o) id (t_m T))) ∧ F' = F) := by
  refine Pm.of fun N => ?_
  obtain ⟨Q, hQ⟩ : ∃ Q : Option Value → FW → Prop, Q = (fun r F' => r = some (.int (m_bits (fun o => m_does T S m o) id (t_m T))) ∧ F' = F) := ⟨_, rfl⟩
  rw [← hQ]
  have b3 := hT.mb
  have b4 := hT.nb
  have b5 := hT.gb
  have b6 := m_from_lt S
  have b7 := hS.db
  refine (show Pv (ab_T (L_X11_missesOf Z_X11_doesMiss)) N 0 [some (.ref 69), some (.int (Int32.ofNat m)), none, none] [] F Q from ?_)
  refine Pv.lit rfl ?_
  refine Pv.istore (lo' := [some (.ref 69), some (.int (Int32.ofNat m)), some (.int 0), none]) rfl rfl ?_
  refine Pv.lit rfl ?_
  refine Pv.istore (lo' := [some (.ref 69), some (.int (Int32.ofNat m)), some (.int 0), some (.int 0)]) rfl rfl ?_
  refine Pv.lp (ι := Nat × Int32) (lof := fun ⟨k, b⟩ => [some (.ref 69), some (.int (Int32.ofNat m)), some (.int b), some (.int (Int32.ofNat k))]) (Ff := fun ⟨k, b⟩ => F) (P := fun ⟨k, b⟩ => k ≤ t_m T ∧ b = m_bits (fun o => m_does T S m o) id k) ?_ (0, 0) (⟨Nat.zero_le _, rfl⟩)
  rintro N1 hN2 ⟨k, b⟩ hi3 ih4
  refine (show Pv _ _ 4 [some (.ref 69), some (.int (Int32.ofNat m)), some (.int b), some (.int (Int32.ofNat k))] [] F Q from ?_)
  obtain ⟨hk, hb⟩ := hi3
  refine Pv.iloadS rfl rfl ?_
  refine Pv.aload rfl rfl ?_
  refine Pv.getR (v := .ref 71) rfl rfl (GW.at (a := 69) (k := 6) (b := 71) hG (by decide)) ?_
  refine Pv.lit rfl ?_
  refine Pv.ald (z := Int32.ofNat (t_m T)) rfl (hT.m) ?_
  refine Pv.icmp rfl (fun c5 => ?_) (fun c5 => ?_)
  · skip
    replace c5 := (i_le (a := t_m T) (b := k) (by omega) (by omega)).mp (of_decide_eq_true c5)
    refine Pv.iload rfl rfl ?_
    exact Pv.ret rfl (by rw [hQ]; exact ⟨by rw [hb, show k = t_m T by omega], rfl⟩)
  · skip
    replace c5 := mt (i_le (a := t_m T) (b := k) (by omega) (by omega)).mpr (of_decide_eq_false c5)
    refine Pv.iload rfl rfl ?_
    refine Pv.aload rfl rfl ?_
    refine Pv.iload rfl rfl ?_
    refine Pv.iload rfl rfl ?_
    refine Pv.callVI (as := [.ref 69, .int (Int32.ofNat m), .int (Int32.ofNat k)]) (rest := [.int b]) (z := b2i (m_does T S m k)) rfl rfl rfl (g_doesMiss (m := m) (o := k) hT hS hG (by omega) (by omega)) ?_
    refine Pv.if0 rfl (fun c6 => ?_) (fun c6 => ?_)
    · skip
      replace c6 := of_decide_eq_true c6
      replace c6 := b2z.mp c6
      refine Pv.lit rfl ?_
      refine Pv.bin (z := b ||| 0) rfl (rfl) ?_
      refine Pv.istore (lo' := [some (.ref 69), some (.int (Int32.ofNat m)), some (.int (b ||| 0)), some (.int (Int32.ofNat k))]) rfl rfl ?_
      refine Pv.iinc (y := Int32.ofNat (k + 1)) (lo' := [some (.ref 69), some (.int (Int32.ofNat m)), some (.int (b ||| 0)), some (.int (Int32.ofNat (k + 1)))]) rfl rfl (i_add k 1) rfl ?_
      refine Pv.goto rfl ?_
      exact ih4 (k + 1, b ||| 0) (⟨by omega, by rw [m_bits_f (f := (fun o => m_does T S m o)) (g := id) (k := k) (by simp [c6]), ← hb]; exact i_or0 _⟩)
    · skip
      replace c6 := of_decide_eq_false c6
      replace c6 := b2n.mp c6
      refine Pv.lit rfl ?_
      refine Pv.iload rfl rfl ?_
      refine Pv.bin (z := 1 <<< ((Int32.ofNat k) &&& 31)) rfl (rfl) ?_
      refine Pv.goto rfl ?_
      refine Pv.bin (z := b ||| (1 <<< ((Int32.ofNat k) &&& 31))) rfl (rfl) ?_
      refine Pv.istore (lo' := [some (.ref 69), some (.int (Int32.ofNat m)), some (.int (b ||| (1 <<< ((Int32.ofNat k) &&& 31)))), some (.int (Int32.ofNat k))]) rfl rfl ?_
      refine Pv.iinc (y := Int32.ofNat (k + 1)) (lo' := [some (.ref 69), some (.int (Int32.ofNat m)), some (.int (b ||| (1 <<< ((Int32.ofNat k) &&& 31)))), some (.int (Int32.ofNat (k + 1)))]) rfl rfl (i_add k 1) rfl ?_
      refine Pv.goto rfl ?_
      exact ih4 (k + 1, b ||| (1 <<< ((Int32.ofNat k) &&& 31))) (⟨by omega, by rw [m_bits_t (f := (fun o => m_does T S m o)) (g := id) (k := k) (by simp [c6]), hb]; rfl⟩)
set_option maxRecDepth 100000 in
set_option maxHeartbeats 4000000 in
theorem g_goingSet {F : FW} {T : St} {S : Sh} (hT : XT F T) (hS : XS F (t_m T) S) (hG : GW F) (hD : h_d S < 400) : Pm Z_X11_goingSet [.ref 69] F (fun r F' => r = some (.int (m_board T S)) ∧ F' = fp F 69 22 (t_l T - (m_pm T S (t_m T)).2)) := by
  refine Pm.of fun N => ?_
  obtain ⟨Q, hQ⟩ : ∃ Q : Option Value → FW → Prop, Q = (fun r F' => r = some (.int (m_board T S)) ∧ F' = fp F 69 22 (t_l T - (m_pm T S (t_m T)).2)) := ⟨_, rfl⟩
  rw [← hQ]
  have b3 := hT.mb
  have b4 := hT.nb
  have b5 := hT.gb
  have b6 := m_from_lt S
  have b7 := hS.db
  have em : m_room T S = t_l T := if_pos hD
  have e0 : t_l T = t_l T - (m_pm T S 0).2 := (Int32.sub_zero _).symm
  refine (show Pv (ab_T (L_X11_goingSet Z_X11_isDead Z_X11_missedBy)) N 0 [some (.ref 69), none, none, none] [] F Q from ?_)
  refine Pv.aload rfl rfl ?_
  refine Pv.getR (v := .ref 71) rfl rfl (GW.at (a := 69) (k := 6) (b := 71) hG (by decide)) ?_
  refine Pv.lit rfl ?_
  refine Pv.ald (z := Int32.ofNat (h_d S)) rfl (hS.d) ?_
  refine Pv.lit rfl ?_
  refine Pv.irem (z := Int32.ofNat ((h_d S) % 2)) rfl (i_rem2 (by omega)) ?_
  refine Pv.istore (lo' := [some (.ref 69), some (.int (Int32.ofNat ((h_d S) % 2))), none, none]) rfl rfl ?_
  refine Pv.lit rfl ?_
  refine Pv.istore (lo' := [some (.ref 69), some (.int (Int32.ofNat ((h_d S) % 2))), some (.int 0), none]) rfl rfl ?_
  refine Pv.aload rfl rfl ?_
  refine Pv.aload rfl rfl ?_
  refine Pv.getR (v := .ref 71) rfl rfl (GW.at (a := 69) (k := 6) (b := 71) hG (by decide)) ?_
  refine Pv.lit rfl ?_
  refine Pv.ald (z := t_l T) rfl (hT.l) ?_
  refine Pv.putI rfl rfl ?_
  refine Pv.fE (congrArg (fp F 69 22) e0) ?_
  refine Pv.lit rfl ?_
  refine Pv.istore (lo' := [some (.ref 69), some (.int (Int32.ofNat ((h_d S) % 2))), some (.int 0), some (.int 0)]) rfl rfl ?_
  refine Pv.lp (ι := Nat × Int32) (lof := fun ⟨k, b⟩ => [some (.ref 69), some (.int (Int32.ofNat ((h_d S) % 2))), some (.int b), some (.int (Int32.ofNat k))]) (Ff := fun ⟨k, b⟩ => (fp F 69 22 (t_l T - (m_pm T S k).2))) (P := fun ⟨k, b⟩ => k ≤ t_m T ∧ b = (m_pm T S k).1) ?_ (0, 0) (⟨Nat.zero_le _, rfl⟩)
  rintro N1 hN2 ⟨k, b⟩ hi3 ih4
  refine (show Pv _ _ 24 [some (.ref 69), some (.int (Int32.ofNat ((h_d S) % 2))), some (.int b), some (.int (Int32.ofNat k))] [] (fp F 69 22 (t_l T - (m_pm T S k).2)) Q from ?_)
  obtain ⟨hk, hb⟩ := hi3
  refine Pv.iloadS rfl rfl ?_
  refine Pv.aload rfl rfl ?_
  refine Pv.getR (v := .ref 71) rfl rfl (GW.at (a := 69) (k := 6) (b := 71) hG (by decide)) ?_
  refine Pv.lit rfl ?_
  refine Pv.ald (z := Int32.ofNat (t_m T)) rfl ((fp_ne (Or.inl (by decide))).trans (hT.m)) ?_
  refine Pv.icmp rfl (fun c5 => ?_) (fun c5 => ?_)
  · skip
    replace c5 := (i_le (a := t_m T) (b := k) (by omega) (by omega)).mp (of_decide_eq_true c5)
    refine Pv.iload rfl rfl ?_
    exact Pv.ret rfl (by rw [hQ]; exact ⟨by rw [hb, show k = t_m T by omega]; rfl, by rw [show k = t_m T by omega]⟩)
  · skip
    replace c5 := mt (i_le (a := t_m T) (b := k) (by omega) (by omega)).mpr (of_decide_eq_false c5)
    refine Pv.aload rfl rfl ?_
    refine Pv.iload rfl rfl ?_
    refine Pv.callVI (as := [.ref 69, .int (Int32.ofNat k)]) (rest := []) (z := b2i (!m_alive S k)) rfl rfl rfl (g_isDead (o := 0) (m := k) (hS.xd.fx (P := fun q => q = 69) (((FX.rf (P := fun q => q = 69))).fp rfl) (by decide)) (hG.fx (P := fun _ => True) (((FX.rf (P := fun _ => True))).fp trivial)) (by omega)) ?_
    refine Pv.if0 rfl (fun c6 => ?_) (fun c6 => ?_)
    · skip
      replace c6 : decide (b2i (!m_alive S k) = 0) = false := by simpa using c6
      replace c6 := of_decide_eq_false c6
      replace c6 := b2n.mp c6
      refine Pv.iinc (y := Int32.ofNat (k + 1)) (lo' := [some (.ref 69), some (.int (Int32.ofNat ((h_d S) % 2))), some (.int b), some (.int (Int32.ofNat (k + 1)))]) rfl rfl (i_add k 1) rfl ?_
      refine Pv.goto rfl ?_
      refine Pv.fE (G := fp F 69 22 (t_l T - (m_pm T S (k + 1)).2)) (by rw [m_pm_f (Or.inr (Or.inl (m_dead_from (by simpa using c6))))]) ?_
      exact ih4 (k + 1, b) (⟨by omega, by rw [m_pm_f (Or.inr (Or.inl (m_dead_from (by simpa using c6))))]; exact hb⟩)
    · skip
      replace c6 : decide (b2i (!m_alive S k) = 0) = true := by simpa using c6
      replace c6 := of_decide_eq_true c6
      replace c6 := b2z.mp c6
      have a1 : m_alive S k = true := by simpa using c6
      refine Pv.aload rfl rfl ?_
      refine Pv.getR (v := .ref 71) rfl rfl (GW.at (a := 69) (k := 6) (b := 71) hG (by decide)) ?_
      refine Pv.lit rfl ?_
      refine Pv.iload rfl rfl ?_
      refine Pv.bin (z := Int32.ofNat (172 + k)) rfl (i_add 172 k) ?_
      refine Pv.ald (z := h_a S k) rfl (by rw [i_toNat (by omega)]; exact (fp_ne (Or.inl (by decide))).trans (hS.a (by omega) a1)) ?_
      refine Pv.iload rfl rfl ?_
      refine Pv.icmp rfl (fun c7 => ?_) (fun c7 => ?_)
      · skip
        replace c7 : decide (h_a S k = Int32.ofNat ((h_d S) % 2)) = false := by simpa using c7
        replace c7 := of_decide_eq_false c7
        refine Pv.iinc (y := Int32.ofNat (k + 1)) (lo' := [some (.ref 69), some (.int (Int32.ofNat ((h_d S) % 2))), some (.int b), some (.int (Int32.ofNat (k + 1)))]) rfl rfl (i_add k 1) rfl ?_
        refine Pv.goto rfl ?_
        refine Pv.fE (G := fp F 69 22 (t_l T - (m_pm T S (k + 1)).2)) (by rw [m_pm_f (Or.inr (Or.inl c7))]) ?_
        exact ih4 (k + 1, b) (⟨by omega, by rw [m_pm_f (Or.inr (Or.inl c7))]; exact hb⟩)
      · skip
        replace c7 : decide (h_a S k = Int32.ofNat ((h_d S) % 2)) = true := by simpa using c7
        replace c7 := of_decide_eq_true c7
        refine Pv.aload rfl rfl ?_
        refine Pv.getI (z := t_l T - (m_pm T S k).2) rfl rfl (fp_eq) ?_
        refine Pv.lit rfl ?_
        refine Pv.icmp rfl (fun c8 => ?_) (fun c8 => ?_)
        · skip
          replace c8 := of_decide_eq_true c8
          refine Pv.iinc (y := Int32.ofNat (k + 1)) (lo' := [some (.ref 69), some (.int (Int32.ofNat ((h_d S) % 2))), some (.int b), some (.int (Int32.ofNat (k + 1)))]) rfl rfl (i_add k 1) rfl ?_
          refine Pv.goto rfl ?_
          refine Pv.fE (G := fp F 69 22 (t_l T - (m_pm T S (k + 1)).2)) (by rw [m_pm_f (Or.inl (by rw [em]; exact c8))]) ?_
          exact ih4 (k + 1, b) (⟨by omega, by rw [m_pm_f (Or.inl (by rw [em]; exact c8))]; exact hb⟩)
        · skip
          replace c8 := of_decide_eq_false c8
          refine Pv.aload rfl rfl ?_
          refine Pv.iload rfl rfl ?_
          refine Pv.callVI (as := [.ref 69, .int (Int32.ofNat k)]) (rest := []) (z := m_bits (fun m => m_does T S m k) id (t_m T)) rfl rfl rfl (g_missedBy (o := k) (hT.fx (P := fun q => q = 69) (((FX.rf (P := fun q => q = 69))).fp rfl) (by decide)) (hS.fx (P := fun q => q = 69) b3 (((FX.rf (P := fun q => q = 69))).fp rfl) (by decide)) (hG.fx (P := fun _ => True) (((FX.rf (P := fun _ => True))).fp trivial)) (by omega)) ?_
          refine Pv.if0 rfl (fun c9 => ?_) (fun c9 => ?_)
          · skip
            replace c9 : decide (m_bits (fun m => m_does T S m k) id (t_m T) = 0) = false := by simpa using c9
            replace c9 := of_decide_eq_false c9
            refine Pv.iload rfl rfl ?_
            refine Pv.lit rfl ?_
            refine Pv.iload rfl rfl ?_
            refine Pv.bin (z := 1 <<< ((Int32.ofNat k) &&& 31)) rfl (rfl) ?_
            refine Pv.bin (z := b ||| (1 <<< ((Int32.ofNat k) &&& 31))) rfl (rfl) ?_
            refine Pv.istore (lo' := [some (.ref 69), some (.int (Int32.ofNat ((h_d S) % 2))), some (.int (b ||| (1 <<< ((Int32.ofNat k) &&& 31)))), some (.int (Int32.ofNat k))]) rfl rfl ?_
            refine Pv.aload rfl rfl ?_
            refine Pv.dup rfl ?_
            refine Pv.getI (z := t_l T - (m_pm T S k).2) rfl rfl (fp_eq) ?_
            refine Pv.lit rfl ?_
            refine Pv.bin (z := (t_l T - (m_pm T S k).2) - 2) rfl (rfl) ?_
            refine Pv.putI rfl rfl ?_
            refine Pv.iinc (y := Int32.ofNat (k + 1)) (lo' := [some (.ref 69), some (.int (Int32.ofNat ((h_d S) % 2))), some (.int (b ||| (1 <<< ((Int32.ofNat k) &&& 31)))), some (.int (Int32.ofNat (k + 1)))]) rfl rfl (i_add k 1) rfl ?_
            refine Pv.goto rfl ?_
            refine Pv.fE (G := fp F 69 22 (t_l T - (m_pm T S (k + 1)).2)) (fp_fp.trans (by rw [m_pm_t (by rw [em]; exact c8) c7 (by rw [m_missed_0 hT.w (by omega), decide_eq_false c9]; rfl), i_ss])) ?_
            exact ih4 (k + 1, b ||| (1 <<< ((Int32.ofNat k) &&& 31))) (⟨by omega, by rw [m_pm_t (by rw [em]; exact c8) c7 (by rw [m_missed_0 hT.w (by omega), decide_eq_false c9]; rfl), hb]⟩)
          · skip
            replace c9 : decide (m_bits (fun m => m_does T S m k) id (t_m T) = 0) = true := by simpa using c9
            replace c9 := of_decide_eq_true c9
            refine Pv.goto rfl ?_
            refine Pv.iinc (y := Int32.ofNat (k + 1)) (lo' := [some (.ref 69), some (.int (Int32.ofNat ((h_d S) % 2))), some (.int b), some (.int (Int32.ofNat (k + 1)))]) rfl rfl (i_add k 1) rfl ?_
            refine Pv.goto rfl ?_
            refine Pv.fE (G := fp F 69 22 (t_l T - (m_pm T S (k + 1)).2)) (by rw [m_pm_f (Or.inr (Or.inr (by rw [m_missed_0 hT.w (by omega), decide_eq_true c9]; rfl)))]) ?_
            exact ih4 (k + 1, b) (⟨by omega, by rw [m_pm_f (Or.inr (Or.inr (by rw [m_missed_0 hT.w (by omega), decide_eq_true c9]; rfl)))]; exact hb⟩)
set_option maxRecDepth 100000 in
set_option maxHeartbeats 4000000 in
theorem g_lackOf {F : FW} {g s : Nat} {w x : Int32} (hG : GW F) (hb : g < 1000) (hb2 : s < 1000) (h1 : F.1 71 (16 + (2 * g + s)) = w) (h2 : F.1 71 (124 + (2 * g + s)) = x) : Pm Z_X11_lackOf [.ref 69, .int (Int32.ofNat g), .int (Int32.ofNat s)] F (fun r F' => r = some (.int (m_lackr w x)) ∧ F' = F) := by
  refine Pm.of fun N => ?_
  obtain ⟨Q, hQ⟩ : ∃ Q : Option Value → FW → Prop, Q = (fun r F' => r = some (.int (m_lackr w x)) ∧ F' = F) := ⟨_, rfl⟩
  rw [← hQ]
  refine (show Pv (ab_T (L_X11_lackOf Z_X11_cell)) N 0 [some (.ref 69), some (.int (Int32.ofNat g)), some (.int (Int32.ofNat s)), none] [] F Q from ?_)
  refine Pv.aload rfl rfl ?_
  refine Pv.getR (v := .ref 71) rfl rfl (GW.at (a := 69) (k := 6) (b := 71) hG (by decide)) ?_
  refine Pv.lit rfl ?_
  refine Pv.iload rfl rfl ?_
  refine Pv.iload rfl rfl ?_
  refine Pv.callI (as := [.int (Int32.ofNat g), .int (Int32.ofNat s)]) (rest := [.int 16, .ref 71]) (z := Int32.ofNat (2 * g + s)) rfl rfl rfl (g_cell (g := g) (s := s)) ?_
  refine Pv.bin (z := Int32.ofNat (16 + (2 * g + s))) rfl (i_add 16 (2 * g + s)) ?_
  refine Pv.ald (z := w) rfl (by rw [i_toNat (by omega)]; exact h1) ?_
  refine Pv.aload rfl rfl ?_
  refine Pv.getR (v := .ref 71) rfl rfl (GW.at (a := 69) (k := 6) (b := 71) hG (by decide)) ?_
  refine Pv.lit rfl ?_
  refine Pv.iload rfl rfl ?_
  refine Pv.iload rfl rfl ?_
  refine Pv.callI (as := [.int (Int32.ofNat g), .int (Int32.ofNat s)]) (rest := [.int 124, .ref 71, .int w]) (z := Int32.ofNat (2 * g + s)) rfl rfl rfl (g_cell (g := g) (s := s)) ?_
  refine Pv.bin (z := Int32.ofNat (124 + (2 * g + s))) rfl (i_add 124 (2 * g + s)) ?_
  refine Pv.ald (z := x) rfl (by rw [i_toNat (by omega)]; exact h2) ?_
  refine Pv.bin (z := w - x) rfl (rfl) ?_
  refine Pv.istore (lo' := [some (.ref 69), some (.int (Int32.ofNat g)), some (.int (Int32.ofNat s)), some (.int (w - x))]) rfl rfl ?_
  refine Pv.iload rfl rfl ?_
  refine Pv.if0 rfl (fun c1 => ?_) (fun c1 => ?_)
  · skip
    replace c1 := of_decide_eq_true c1
    refine Pv.lit rfl ?_
    exact Pv.ret rfl (by rw [hQ]; exact ⟨by unfold m_lackr; rw [if_pos c1], rfl⟩)
  · skip
    replace c1 := of_decide_eq_false c1
    refine Pv.iload rfl rfl ?_
    refine Pv.goto rfl ?_
    exact Pv.ret rfl (by rw [hQ]; exact ⟨by unfold m_lackr; rw [if_neg c1], rfl⟩)
set_option maxRecDepth 100000 in
set_option maxHeartbeats 4000000 in
theorem g_goesOf {F : FW} {g d : Nat} {rm x y w : Int32} (hG : GW F) (hb : g < 900) (hb2 : d ≤ 400) (h0 : F.1 69 22 = rm) (hd : F.1 71 120 = Int32.ofNat d) (h1 : F.1 71 (124 + (2 * g + (d % 2))) = x) (h2 : F.1 71 (124 + (2 * g + (1 - (d % 2)))) = y) (h3 : F.1 71 (16 + (2 * g + (1 - (d % 2)))) = w) : Pm Z_X11_goesOf [.ref 69, .int (Int32.ofNat g)] F (fun r F' => r = some (.int (m_less rm (m_less x (m_lackr w y)))) ∧ F' = F) := by
  refine Pm.of fun N => ?_
  obtain ⟨Q, hQ⟩ : ∃ Q : Option Value → FW → Prop, Q = (fun r F' => r = some (.int (m_less rm (m_less x (m_lackr w y)))) ∧ F' = F) := ⟨_, rfl⟩
  rw [← hQ]
  refine (show Pv (ab_T (L_X11_goesOf Z_X11_cell Z_X11_lackOf Z_X11_lesser)) N 0 [some (.ref 69), some (.int (Int32.ofNat g)), none] [] F Q from ?_)
  refine Pv.aload rfl rfl ?_
  refine Pv.getR (v := .ref 71) rfl rfl (GW.at (a := 69) (k := 6) (b := 71) hG (by decide)) ?_
  refine Pv.lit rfl ?_
  refine Pv.ald (z := Int32.ofNat d) rfl (hd) ?_
  refine Pv.lit rfl ?_
  refine Pv.irem (z := Int32.ofNat (d % 2)) rfl (i_rem2 (by omega)) ?_
  refine Pv.istore (lo' := [some (.ref 69), some (.int (Int32.ofNat g)), some (.int (Int32.ofNat (d % 2)))]) rfl rfl ?_
  refine Pv.aload rfl rfl ?_
  refine Pv.getI (z := rm) rfl rfl (h0) ?_
  refine Pv.aload rfl rfl ?_
  refine Pv.getR (v := .ref 71) rfl rfl (GW.at (a := 69) (k := 6) (b := 71) hG (by decide)) ?_
  refine Pv.lit rfl ?_
  refine Pv.iload rfl rfl ?_
  refine Pv.iload rfl rfl ?_
  refine Pv.callI (as := [.int (Int32.ofNat g), .int (Int32.ofNat (d % 2))]) (rest := [.int 124, .ref 71, .int rm]) (z := Int32.ofNat (2 * g + (d % 2))) rfl rfl rfl (g_cell (g := g) (s := d % 2)) ?_
  refine Pv.bin (z := Int32.ofNat (124 + (2 * g + (d % 2)))) rfl (i_add 124 (2 * g + (d % 2))) ?_
  refine Pv.ald (z := x) rfl (by rw [i_toNat (by omega)]; exact h1) ?_
  refine Pv.aload rfl rfl ?_
  refine Pv.iload rfl rfl ?_
  refine Pv.lit rfl ?_
  refine Pv.iload rfl rfl ?_
  refine Pv.bin (z := Int32.ofNat (1 - (d % 2))) rfl (i_1m (by omega)) ?_
  refine Pv.callVI (as := [.ref 69, .int (Int32.ofNat g), .int (Int32.ofNat (1 - (d % 2)))]) (rest := [.int x, .int rm]) (z := m_lackr w y) rfl rfl rfl (g_lackOf (g := g) (s := 1 - (d % 2)) (w := w) (x := y) hG (by omega) (by omega) (h3) (h2)) ?_
  refine Pv.callI (as := [.int x, .int (m_lackr w y)]) (rest := [.int rm]) (z := m_less x (m_lackr w y)) rfl rfl rfl (g_lesser (x := x) (y := m_lackr w y)) ?_
  refine Pv.callI (as := [.int rm, .int (m_less x (m_lackr w y))]) (rest := []) (z := m_less rm (m_less x (m_lackr w y))) rfl rfl rfl (g_lesser (x := rm) (y := m_less x (m_lackr w y))) ?_
  exact Pv.ret rfl (by rw [hQ]; exact ⟨rfl, rfl⟩)
set_option maxRecDepth 100000 in
set_option maxHeartbeats 4000000 in
theorem g_tries {F : FW} (hG : GW F) : Pm Z_X11_tries [.ref 69] F (fun r F' => r = none ∧ FX (fun q => q = 78) F F' ∧ ∀ k, k < 133 → F'.1 78 k = F.1 71 (120 + k)) := by
  refine Pm.of fun N => ?_
  obtain ⟨Q, hQ⟩ : ∃ Q : Option Value → FW → Prop, Q = (fun r F' => r = none ∧ FX (fun q => q = 78) F F' ∧ ∀ k, k < 133 → F'.1 78 k = F.1 71 (120 + k)) := ⟨_, rfl⟩
  rw [← hQ]
  refine (show Pv (ab_T L_X11_tries) N 0 [some (.ref 69), none] [] F Q from ?_)
  refine Pv.lit rfl ?_
  refine Pv.istore (lo' := [some (.ref 69), some (.int 0)]) rfl rfl ?_
  refine Pv.lp (ι := Nat × FW) (lof := fun ⟨k, G⟩ => [some (.ref 69), some (.int (Int32.ofNat k))]) (Ff := fun ⟨k, G⟩ => G) (P := fun ⟨k, G⟩ => (k ≤ 133) ∧ (FX (fun q => q = 78) F G) ∧ (AR G 78 k (fun j => F.1 71 (120 + j)))) ?_ (0, F) (⟨Nat.zero_le _, FX.rf, AR.z⟩)
  rintro N1 hN2 ⟨k, G⟩ hi3 ih4
  refine (show Pv _ _ 2 [some (.ref 69), some (.int (Int32.ofNat k))] [] G Q from ?_)
  obtain ⟨hk, hxG, hA⟩ := hi3
  have hx5 := hG.fx (P := fun q => q = 78) hxG
  refine Pv.iloadS rfl rfl ?_
  refine Pv.lit rfl ?_
  refine Pv.icmp rfl (fun c6 => ?_) (fun c6 => ?_)
  · skip
    replace c6 := (i_le (a := 133) (b := k) (by omega) (by omega)).mp (of_decide_eq_true c6)
    exact Pv.vret rfl (by rw [hQ]; exact ⟨rfl, hxG, fun j hj => hA j (by omega)⟩)
  · skip
    replace c6 := mt (i_le (a := 133) (b := k) (by omega) (by omega)).mpr (of_decide_eq_false c6)
    refine Pv.aload rfl rfl ?_
    refine Pv.getR (v := .ref 78) rfl rfl (GW.at (a := 69) (k := 24) (b := 78) hx5 (by decide)) ?_
    refine Pv.iload rfl rfl ?_
    refine Pv.aload rfl rfl ?_
    refine Pv.getR (v := .ref 71) rfl rfl (GW.at (a := 69) (k := 6) (b := 71) hx5 (by decide)) ?_
    refine Pv.lit rfl ?_
    refine Pv.iload rfl rfl ?_
    refine Pv.bin (z := Int32.ofNat (120 + k)) rfl (i_add 120 k) ?_
    refine Pv.ald (z := F.1 71 (120 + k)) rfl (by rw [i_toNat (by omega)]; exact hxG.1 71 _ (by decide)) ?_
    refine Pv.astk (k := k) (z := F.1 71 (120 + k)) rfl (i_toNat (by omega)) (rfl) ?_
    refine Pv.iinc (y := Int32.ofNat (k + 1)) (lo' := [some (.ref 69), some (.int (Int32.ofNat (k + 1)))]) rfl rfl (i_add k 1) rfl ?_
    refine Pv.goto rfl ?_
    exact ih4 (k + 1, (fp G 78 k (F.1 71 (120 + k)))) (⟨by omega, (hxG).fp (show 78 = 78 by omega), (hA).ext (rfl)⟩)
set_option maxRecDepth 100000 in
set_option maxHeartbeats 4000000 in
theorem g_back {F : FW} (hG : GW F) : Pm Z_X11_back [.ref 69] F (fun r F' => r = none ∧ FX (fun q => q = 71) F F' ∧ (∀ k, k < 133 → F'.1 71 (120 + k) = F.1 78 k) ∧ ∀ k, k < 120 ∨ 253 ≤ k → F'.1 71 k = F.1 71 k) := by
  refine Pm.of fun N => ?_
  obtain ⟨Q, hQ⟩ : ∃ Q : Option Value → FW → Prop, Q = (fun r F' => r = none ∧ FX (fun q => q = 71) F F' ∧ (∀ k, k < 133 → F'.1 71 (120 + k) = F.1 78 k) ∧ ∀ k, k < 120 ∨ 253 ≤ k → F'.1 71 k = F.1 71 k) := ⟨_, rfl⟩
  rw [← hQ]
  refine (show Pv (ab_T L_X11_back) N 0 [some (.ref 69), none] [] F Q from ?_)
  refine Pv.lit rfl ?_
  refine Pv.istore (lo' := [some (.ref 69), some (.int 0)]) rfl rfl ?_
  refine Pv.lp (ι := Nat × FW) (lof := fun ⟨k, G⟩ => [some (.ref 69), some (.int (Int32.ofNat k))]) (Ff := fun ⟨k, G⟩ => G) (P := fun ⟨k, G⟩ => (k ≤ 133) ∧ (FX (fun q => q = 71) F G) ∧ (∀ j, j < k → G.1 71 (120 + j) = F.1 78 j) ∧ (∀ j, j < 120 ∨ 253 ≤ j → G.1 71 j = F.1 71 j)) ?_ (0, F) (⟨Nat.zero_le _, FX.rf, fun j hj => absurd hj (Nat.not_lt_zero j), fun _ _ => rfl⟩)
  rintro N1 hN2 ⟨k, G⟩ hi3 ih4
  refine (show Pv _ _ 2 [some (.ref 69), some (.int (Int32.ofNat k))] [] G Q from ?_)
  obtain ⟨hk, hxG, hA, hB⟩ := hi3
  have hx5 := hG.fx (P := fun q => q = 71) hxG
  refine Pv.iloadS rfl rfl ?_
  refine Pv.lit rfl ?_
  refine Pv.icmp rfl (fun c6 => ?_) (fun c6 => ?_)
  · skip
    replace c6 := (i_le (a := 133) (b := k) (by omega) (by omega)).mp (of_decide_eq_true c6)
    exact Pv.vret rfl (by rw [hQ]; exact ⟨rfl, hxG, fun j hj => hA j (by omega), hB⟩)
  · skip
    replace c6 := mt (i_le (a := 133) (b := k) (by omega) (by omega)).mpr (of_decide_eq_false c6)
    refine Pv.aload rfl rfl ?_
    refine Pv.getR (v := .ref 71) rfl rfl (GW.at (a := 69) (k := 6) (b := 71) hx5 (by decide)) ?_
    refine Pv.lit rfl ?_
    refine Pv.iload rfl rfl ?_
    refine Pv.bin (z := Int32.ofNat (120 + k)) rfl (i_add 120 k) ?_
    refine Pv.aload rfl rfl ?_
    refine Pv.getR (v := .ref 78) rfl rfl (GW.at (a := 69) (k := 24) (b := 78) hx5 (by decide)) ?_
    refine Pv.iload rfl rfl ?_
    refine Pv.ald (z := F.1 78 k) rfl (by rw [i_toNat (by omega)]; exact hxG.1 78 _ (by decide)) ?_
    refine Pv.astk (k := 120 + k) (z := F.1 78 k) rfl (i_toNat (by omega)) (rfl) ?_
    refine Pv.iinc (y := Int32.ofNat (k + 1)) (lo' := [some (.ref 69), some (.int (Int32.ofNat (k + 1)))]) rfl rfl (i_add k 1) rfl ?_
    refine Pv.goto rfl ?_
    exact ih4 (k + 1, (fp G 71 (120 + k) (F.1 78 k))) (⟨by omega, (hxG).fp (show 71 = 71 by omega), fun j hj => Or.elim (Classical.em (j = k)) (fun e => by rw [e]; exact fp_eq) (fun e => (fp_ne (Or.inr (by omega))).trans (hA j (by omega))), fun j hj => (fp_ne (Or.inr (by omega))).trans (hB j hj)⟩)
