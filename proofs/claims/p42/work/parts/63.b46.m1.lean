set_option maxRecDepth 100000 in
set_option maxHeartbeats 4000000 in
theorem f_slotOf {F : FW} {g s : Nat} : Pm Z_X10_slotOf [.int (Int32.ofNat g), .int (Int32.ofNat s)] F (fun r F' => r = some (.int (Int32.ofNat (2 * g + s))) ∧ F' = F) := by
  refine Pm.of fun N => ?_
  obtain ⟨Q, hQ⟩ : ∃ Q : Option Value → FW → Prop, Q = (fun r F' => r = some (.int (Int32.ofNat (2 * g + s))) ∧ F' = F) := ⟨_, rfl⟩
  rw [← hQ]
  refine (show Pv (ab_T L_X10_slotOf) N 0 [some (.int (Int32.ofNat g)), some (.int (Int32.ofNat s))] [] F Q from ?_)
  refine Pv.lit rfl ?_
  refine Pv.iload rfl rfl ?_
  refine Pv.bin (z := Int32.ofNat (2 * g)) rfl (i_mul 2 g) ?_
  refine Pv.iload rfl rfl ?_
  refine Pv.bin (z := Int32.ofNat ((2 * g) + s)) rfl (i_add (2 * g) s) ?_
  exact Pv.ret rfl (by rw [hQ]; exact ⟨rfl, rfl⟩)
set_option maxRecDepth 100000 in
set_option maxHeartbeats 4000000 in
theorem f_amountOf {F : FW} {t s k : Nat} {T : St} (hT : TR F t T) (hk : s * 12 + k < 48) : Pm Z_X7_amountOf [.ref t, .int (Int32.ofNat s), .int (Int32.ofNat k)] F (fun r F' => r = some (.int (t_a T (s * 12 + k))) ∧ F' = F) := by
  refine Pm.of fun N => ?_
  obtain ⟨Q, hQ⟩ : ∃ Q : Option Value → FW → Prop, Q = (fun r F' => r = some (.int (t_a T (s * 12 + k))) ∧ F' = F) := ⟨_, rfl⟩
  rw [← hQ]
  refine (show Pv (ab_T L_X7_amountOf) N 0 [some (.ref t), some (.int (Int32.ofNat s)), some (.int (Int32.ofNat k))] [] F Q from ?_)
  refine Pv.aload rfl rfl ?_
  refine Pv.getR (v := .ref (t + 4)) rfl rfl (hT.o 3 (by decide)) ?_
  refine Pv.iload rfl rfl ?_
  refine Pv.lit rfl ?_
  refine Pv.bin (z := Int32.ofNat (s * 12)) rfl (i_mul s 12) ?_
  refine Pv.iload rfl rfl ?_
  refine Pv.bin (z := Int32.ofNat ((s * 12) + k)) rfl (i_add (s * 12) k) ?_
  refine Pv.ald (z := t_a T ((s * 12) + k)) rfl (by rw [i_toNat (by omega)]; exact hT.a _ (by omega)) ?_
  exact Pv.ret rfl (by rw [hQ]; exact ⟨rfl, rfl⟩)
set_option maxRecDepth 100000 in
set_option maxHeartbeats 4000000 in
theorem f_leftAfter {F : FW} {t k : Nat} {x : Int32} {T : St} (hT : TR F t T) (hk : k < 12) : Pm Z_X7_leftAfter [.ref t, .int (Int32.ofNat k), .int x] F (fun r F' => r = some (.int (m_left T k x)) ∧ F' = F) := by
  refine Pm.of fun N => ?_
  obtain ⟨Q, hQ⟩ : ∃ Q : Option Value → FW → Prop, Q = (fun r F' => r = some (.int (m_left T k x)) ∧ F' = F) := ⟨_, rfl⟩
  rw [← hQ]
  refine (show Pv (ab_T L_X7_leftAfter) N 0 [some (.ref t), some (.int (Int32.ofNat k)), some (.int x), none] [] F Q from ?_)
  refine Pv.lit rfl ?_
  refine Pv.iload rfl rfl ?_
  refine Pv.aload rfl rfl ?_
  refine Pv.getR (v := .ref (t + 4)) rfl rfl (hT.o 3 (by decide)) ?_
  refine Pv.lit rfl ?_
  refine Pv.iload rfl rfl ?_
  refine Pv.bin (z := Int32.ofNat (36 + k)) rfl (i_add 36 k) ?_
  refine Pv.ald (z := t_a T (36 + k)) rfl (by rw [i_toNat (by omega)]; exact hT.a _ (by omega)) ?_
  refine Pv.bin (z := x + (t_a T (36 + k))) rfl (rfl) ?_
  refine Pv.mm (z := ab_min 999 (x + (t_a T (36 + k)))) rfl (rfl) ?_
  refine Pv.istore (lo' := [some (.ref t), some (.int (Int32.ofNat k)), some (.int x), some (.int (ab_min 999 (x + (t_a T (36 + k)))))]) rfl rfl ?_
  refine Pv.iload rfl rfl ?_
  refine Pv.aload rfl rfl ?_
  refine Pv.getR (v := .ref (t + 4)) rfl rfl (hT.o 3 (by decide)) ?_
  refine Pv.lit rfl ?_
  refine Pv.iload rfl rfl ?_
  refine Pv.bin (z := Int32.ofNat (24 + k)) rfl (i_add 24 k) ?_
  refine Pv.ald (z := t_a T (24 + k)) rfl (by rw [i_toNat (by omega)]; exact hT.a _ (by omega)) ?_
  refine Pv.bin (z := (ab_min 999 (x + (t_a T (36 + k)))) - (t_a T (24 + k))) rfl (rfl) ?_
  exact Pv.ret rfl (by rw [hQ]; exact ⟨rfl, rfl⟩)
set_option maxRecDepth 100000 in
set_option maxHeartbeats 4000000 in
theorem f_stockAfter {F : FW} {t k : Nat} {x : Int32} {T : St} (hT : TR F t T) (hk : k < 12) : Pm Z_X7_stockAfter [.ref t, .int (Int32.ofNat k), .int x] F (fun r F' => r = some (.int (ab_max 0 (m_left T k x))) ∧ F' = F) := by
  refine Pm.of fun N => ?_
  obtain ⟨Q, hQ⟩ : ∃ Q : Option Value → FW → Prop, Q = (fun r F' => r = some (.int (ab_max 0 (m_left T k x))) ∧ F' = F) := ⟨_, rfl⟩
  rw [← hQ]
  refine (show Pv (ab_T (L_X7_stockAfter Z_X7_leftAfter)) N 0 [some (.ref t), some (.int (Int32.ofNat k)), some (.int x)] [] F Q from ?_)
  refine Pv.lit rfl ?_
  refine Pv.aload rfl rfl ?_
  refine Pv.iload rfl rfl ?_
  refine Pv.iload rfl rfl ?_
  refine Pv.callVI (as := [.ref t, .int (Int32.ofNat k), .int x]) (rest := [.int 0]) (z := m_left T k x) rfl rfl rfl (f_leftAfter (k := k) (x := x) hT (by omega)) ?_
  refine Pv.mm (z := ab_max 0 (m_left T k x)) rfl (rfl) ?_
  exact Pv.ret rfl (by rw [hQ]; exact ⟨rfl, rfl⟩)
set_option maxRecDepth 100000 in
set_option maxHeartbeats 4000000 in
theorem f_amountMoved {F : FW} {x y z : Int32} : Pm Z_X1_amountMoved [.int x, .int y, .int z] F (fun r F' => r = some (.int (m_moved x y z)) ∧ F' = F) := by
  refine Pm.of fun N => ?_
  obtain ⟨Q, hQ⟩ : ∃ Q : Option Value → FW → Prop, Q = (fun r F' => r = some (.int (m_moved x y z)) ∧ F' = F) := ⟨_, rfl⟩
  rw [← hQ]
  refine (show Pv (ab_T L_X1_amountMoved) N 0 [some (.int x), some (.int y), some (.int z)] [] F Q from ?_)
  refine Pv.lit rfl ?_
  refine Pv.iload rfl rfl ?_
  refine Pv.iload rfl rfl ?_
  refine Pv.iload rfl rfl ?_
  refine Pv.mm (z := ab_min y z) rfl (rfl) ?_
  refine Pv.mm (z := ab_min x (ab_min y z)) rfl (rfl) ?_
  refine Pv.mm (z := ab_max 0 (ab_min x (ab_min y z))) rfl (rfl) ?_
  exact Pv.ret rfl (by rw [hQ]; exact ⟨rfl, rfl⟩)
set_option maxRecDepth 100000 in
set_option maxHeartbeats 4000000 in
theorem f_ferryShore {F : FW} {p m : Nat} {S : Sh} (hS : SHR F p m S) : Pm Z_X6_ferryShore [.ref p] F (fun r F' => r = some (.int (Int32.ofNat (m_from S))) ∧ F' = F) := by
  refine Pm.of fun N => ?_
  obtain ⟨Q, hQ⟩ : ∃ Q : Option Value → FW → Prop, Q = (fun r F' => r = some (.int (Int32.ofNat (m_from S))) ∧ F' = F) := ⟨_, rfl⟩
  rw [← hQ]
  have b0 := hS.db
  refine (show Pv (ab_T L_X6_ferryShore) N 0 [some (.ref p)] [] F Q from ?_)
  refine Pv.aload rfl rfl ?_
  refine Pv.getI (z := Int32.ofNat (h_d S)) rfl rfl (hS.d) ?_
  refine Pv.lit rfl ?_
  refine Pv.irem (z := Int32.ofNat ((h_d S) % 2)) rfl (i_rem2 (by omega)) ?_
  exact Pv.ret rfl (by rw [hQ]; exact ⟨rfl, rfl⟩)
set_option maxRecDepth 100000 in
set_option maxHeartbeats 4000000 in
theorem f_isAlive {F : FW} {p n m : Nat} {S : Sh} (hS : SHR F p n S) (hm : m < n) (hn : n ≤ 8) : Pm Z_X6_isAlive [.ref p, .int (Int32.ofNat m)] F (fun r F' => r = some (.int (b2i (m_alive S m))) ∧ F' = F) := by
  refine Pm.of fun N => ?_
  obtain ⟨Q, hQ⟩ : ∃ Q : Option Value → FW → Prop, Q = (fun r F' => r = some (.int (b2i (m_alive S m))) ∧ F' = F) := ⟨_, rfl⟩
  rw [← hQ]
  refine (show Pv (ab_T L_X6_isAlive) N 0 [some (.ref p), some (.int (Int32.ofNat m))] [] F Q from ?_)
  refine Pv.aload rfl rfl ?_
  refine Pv.getR (v := .ref (p + 5)) rfl rfl (hS.o 4 (by decide)) ?_
  refine Pv.iload rfl rfl ?_
  refine Pv.ald (z := h_a S m) rfl (by rw [i_toNat (by omega)]; exact hS.a _ (by omega)) ?_
  refine Pv.lit rfl ?_
  refine Pv.icmp rfl (fun c1 => ?_) (fun c1 => ?_)
  · skip
    replace c1 := of_decide_eq_true c1
    refine Pv.lit rfl ?_
    exact Pv.zret rfl (by rw [hQ]; exact ⟨b2_f (by simp [m_alive, c1]), rfl⟩)
  · skip
    replace c1 := of_decide_eq_false c1
    refine Pv.lit rfl ?_
    refine Pv.goto rfl ?_
    exact Pv.zret rfl (by rw [hQ]; exact ⟨b2_t (by simp [m_alive, c1]), rfl⟩)
set_option maxRecDepth 100000 in
set_option maxHeartbeats 4000000 in
theorem f_apartOf {F : FW} {p n m o : Nat} {S : Sh} (hS : SHR F p n S) (hm : m < 8) (ho : o < 8) : Pm Z_X6_apartOf [.ref p, .int (Int32.ofNat m), .int (Int32.ofNat o)] F (fun r F' => r = some (.int (m_apart S m o)) ∧ F' = F) := by
  refine Pm.of fun N => ?_
  obtain ⟨Q, hQ⟩ : ∃ Q : Option Value → FW → Prop, Q = (fun r F' => r = some (.int (m_apart S m o)) ∧ F' = F) := ⟨_, rfl⟩
  rw [← hQ]
  refine (show Pv (ab_T L_X6_apartOf) N 0 [some (.ref p), some (.int (Int32.ofNat m)), some (.int (Int32.ofNat o))] [] F Q from ?_)
  refine Pv.iload rfl rfl ?_
  refine Pv.iload rfl rfl ?_
  refine Pv.icmp rfl (fun c1 => ?_) (fun c1 => ?_)
  · skip
    replace c1 := (i_le (a := m) (b := o) (by omega) (by omega)).mp (of_decide_eq_true c1)
    refine Pv.aload rfl rfl ?_
    refine Pv.getR (v := .ref (p + 7)) rfl rfl (hS.o 6 (by decide)) ?_
    refine Pv.iload rfl rfl ?_
    refine Pv.lit rfl ?_
    refine Pv.bin (z := Int32.ofNat (o * 8)) rfl (i_mul o 8) ?_
    refine Pv.iload rfl rfl ?_
    refine Pv.bin (z := Int32.ofNat ((o * 8) + m)) rfl (i_add (o * 8) m) ?_
    refine Pv.ald (z := h_p S ((o * 8) + m)) rfl (by rw [i_toNat (by omega)]; exact hS.p _ (by omega)) ?_
    exact Pv.ret rfl (by rw [hQ]; exact ⟨by rw [show m_apart S m o = h_p S ((o * 8) + m) from if_neg (by omega)], rfl⟩)
  · skip
    replace c1 := mt (i_le (a := m) (b := o) (by omega) (by omega)).mpr (of_decide_eq_false c1)
    refine Pv.aload rfl rfl ?_
    refine Pv.getR (v := .ref (p + 7)) rfl rfl (hS.o 6 (by decide)) ?_
    refine Pv.iload rfl rfl ?_
    refine Pv.lit rfl ?_
    refine Pv.bin (z := Int32.ofNat (m * 8)) rfl (i_mul m 8) ?_
    refine Pv.iload rfl rfl ?_
    refine Pv.bin (z := Int32.ofNat ((m * 8) + o)) rfl (i_add (m * 8) o) ?_
    refine Pv.ald (z := h_p S ((m * 8) + o)) rfl (by rw [i_toNat (by omega)]; exact hS.p _ (by omega)) ?_
    refine Pv.goto rfl ?_
    exact Pv.ret rfl (by rw [hQ]; exact ⟨by rw [show m_apart S m o = h_p S ((m * 8) + o) from if_pos (by omega)], rfl⟩)
set_option maxRecDepth 100000 in
set_option maxHeartbeats 4000000 in
theorem f_lackAt {F : FW} {t p k : Nat} {T : St} {S : Sh} (hT : TR F t T) (hS : SHR F p (t_m T) S) (hk : k < 12) : Pm Z_X6_lackAt [.ref p, .ref t, .int (Int32.ofNat k)] F (fun r F' => r = some (.int (m_lack T S k)) ∧ F' = F) := by
  refine Pm.of fun N => ?_
  obtain ⟨Q, hQ⟩ : ∃ Q : Option Value → FW → Prop, Q = (fun r F' => r = some (.int (m_lack T S k)) ∧ F' = F) := ⟨_, rfl⟩
  rw [← hQ]
  refine (show Pv (ab_T (L_X6_lackAt Z_X7_amountOf)) N 0 [some (.ref p), some (.ref t), some (.int (Int32.ofNat k))] [] F Q from ?_)
  refine Pv.lit rfl ?_
  refine Pv.aload rfl rfl ?_
  refine Pv.lit rfl ?_
  refine Pv.iload rfl rfl ?_
  refine Pv.callVI (as := [.ref t, .int 1, .int (Int32.ofNat k)]) (rest := [.int 0]) (z := t_a T (1 * 12 + k)) rfl rfl rfl (f_amountOf (s := 1) (k := k) hT (by omega)) ?_
  refine Pv.aload rfl rfl ?_
  refine Pv.getR (v := .ref (p + 1)) rfl rfl (hS.o 0 (by decide)) ?_
  refine Pv.iload rfl rfl ?_
  refine Pv.ald (z := h_s S k) rfl (by rw [i_toNat (by omega)]; exact hS.s _ (by omega)) ?_
  refine Pv.bin (z := (t_a T (1 * 12 + k)) - (h_s S k)) rfl (rfl) ?_
  refine Pv.mm (z := ab_max 0 ((t_a T (1 * 12 + k)) - (h_s S k))) rfl (rfl) ?_
  exact Pv.ret rfl (by rw [hQ]; exact ⟨rfl, rfl⟩)
set_option maxRecDepth 100000 in
set_option maxHeartbeats 4000000 in
theorem f_isFalse {F : FW} {t p k : Nat} {T : St} {S : Sh} (hT : TR F t T) (hS : SHR F p (t_m T) S) (hk : k < 12) : Pm Z_X6_isFalse [.ref p, .ref t, .int (Int32.ofNat k)] F (fun r F' => r = some (.int (b2i (m_false T S k))) ∧ F' = F) := by
  refine Pm.of fun N => ?_
  obtain ⟨Q, hQ⟩ : ∃ Q : Option Value → FW → Prop, Q = (fun r F' => r = some (.int (b2i (m_false T S k))) ∧ F' = F) := ⟨_, rfl⟩
  rw [← hQ]
  refine (show Pv (ab_T (L_X6_isFalse Z_X7_amountOf)) N 0 [some (.ref p), some (.ref t), some (.int (Int32.ofNat k)), none] [] F Q from ?_)
  refine Pv.aload rfl rfl ?_
  refine Pv.lit rfl ?_
  refine Pv.iload rfl rfl ?_
  refine Pv.callVI (as := [.ref t, .int 1, .int (Int32.ofNat k)]) (rest := []) (z := t_a T (1 * 12 + k)) rfl rfl rfl (f_amountOf (s := 1) (k := k) hT (by omega)) ?_
  refine Pv.istore (lo' := [some (.ref p), some (.ref t), some (.int (Int32.ofNat k)), some (.int (t_a T (1 * 12 + k)))]) rfl rfl ?_
  refine Pv.aload rfl rfl ?_
  refine Pv.getR (v := .ref (p + 1)) rfl rfl (hS.o 0 (by decide)) ?_
  refine Pv.iload rfl rfl ?_
  refine Pv.ald (z := h_s S k) rfl (by rw [i_toNat (by omega)]; exact hS.s _ (by omega)) ?_
  refine Pv.iload rfl rfl ?_
  refine Pv.icmp rfl (fun c1 => ?_) (fun c1 => ?_)
  · skip
    replace c1 := of_decide_eq_true c1
    refine Pv.lit rfl ?_
    exact Pv.zret rfl (by rw [hQ]; exact ⟨b2_f (by simp [m_false, c1]), rfl⟩)
  · skip
    replace c1 := of_decide_eq_false c1
    refine Pv.aload rfl rfl ?_
    refine Pv.getR (v := .ref (p + 1)) rfl rfl (hS.o 0 (by decide)) ?_
    refine Pv.iload rfl rfl ?_
    refine Pv.ald (z := h_s S k) rfl (by rw [i_toNat (by omega)]; exact hS.s _ (by omega)) ?_
    refine Pv.aload rfl rfl ?_
    refine Pv.getR (v := .ref (p + 2)) rfl rfl (hS.o 1 (by decide)) ?_
    refine Pv.iload rfl rfl ?_
    refine Pv.ald (z := h_h S k) rfl (by rw [i_toNat (by omega)]; exact hS.h _ (by omega)) ?_
    refine Pv.bin (z := (h_s S k) + (h_h S k)) rfl (rfl) ?_
    refine Pv.iload rfl rfl ?_
    refine Pv.icmp rfl (fun c2 => ?_) (fun c2 => ?_)
    · skip
      replace c2 := of_decide_eq_true c2
      refine Pv.lit rfl ?_
      exact Pv.zret rfl (by rw [hQ]; exact ⟨b2_f (by simp [m_false, c1, c2]), rfl⟩)
    · skip
      replace c2 := of_decide_eq_false c2
      refine Pv.lit rfl ?_
      refine Pv.goto rfl ?_
      exact Pv.zret rfl (by rw [hQ]; exact ⟨b2_t (by simp [m_false, c1, c2]), rfl⟩)
set_option maxRecDepth 100000 in
set_option maxHeartbeats 4000000 in
theorem f_isFelt {F : FW} {t p k : Nat} {T : St} {S : Sh} (hT : TR F t T) (hS : SHR F p (t_m T) S) (hk : k < t_n T) : Pm Z_X6_isFelt [.ref p, .ref t, .int (Int32.ofNat k)] F (fun r F' => r = some (.int (b2i (m_felt T S k))) ∧ F' = F) := by
  refine Pm.of fun N => ?_
  obtain ⟨Q, hQ⟩ : ∃ Q : Option Value → FW → Prop, Q = (fun r F' => r = some (.int (b2i (m_felt T S k))) ∧ F' = F) := ⟨_, rfl⟩
  rw [← hQ]
  have b1 := hT.rb hk
  have b2 := hT.db hk
  have b3 := hT.mb
  have b4 := hT.nb
  refine (show Pv (ab_T (L_X6_isFelt Z_X6_apartOf)) N 0 [some (.ref p), some (.ref t), some (.int (Int32.ofNat k)), none, none, none] [] F Q from ?_)
  refine Pv.aload rfl rfl ?_
  refine Pv.getR (v := .ref (t + 5)) rfl rfl (hT.o 4 (by decide)) ?_
  refine Pv.iload rfl rfl ?_
  refine Pv.ald (z := Int32.ofNat (t_r T k)) rfl (by rw [i_toNat (by omega)]; exact hT.r _ (by omega)) ?_
  refine Pv.istore (lo' := [some (.ref p), some (.ref t), some (.int (Int32.ofNat k)), some (.int (Int32.ofNat (t_r T k))), none, none]) rfl rfl ?_
  refine Pv.aload rfl rfl ?_
  refine Pv.getR (v := .ref (t + 6)) rfl rfl (hT.o 5 (by decide)) ?_
  refine Pv.iload rfl rfl ?_
  refine Pv.ald (z := Int32.ofNat (t_d T k)) rfl (by rw [i_toNat (by omega)]; exact hT.d _ (by omega)) ?_
  refine Pv.istore (lo' := [some (.ref p), some (.ref t), some (.int (Int32.ofNat k)), some (.int (Int32.ofNat (t_r T k))), some (.int (Int32.ofNat (t_d T k))), none]) rfl rfl ?_
  refine Pv.aload rfl rfl ?_
  refine Pv.getR (v := .ref (p + 5)) rfl rfl (hS.o 4 (by decide)) ?_
  refine Pv.iload rfl rfl ?_
  refine Pv.ald (z := h_a S (t_r T k)) rfl (by rw [i_toNat (by omega)]; exact hS.a _ (by omega)) ?_
  refine Pv.lit rfl ?_
  refine Pv.icmp rfl (fun c1 => ?_) (fun c1 => ?_)
  · skip
    replace c1 := of_decide_eq_true c1
    refine Pv.lit rfl ?_
    refine Pv.istore (lo' := [some (.ref p), some (.ref t), some (.int (Int32.ofNat k)), some (.int (Int32.ofNat (t_r T k))), some (.int (Int32.ofNat (t_d T k))), some (.int 0)]) rfl rfl ?_
    refine Pv.iload rfl rfl ?_
    refine Pv.if0 rfl (fun c2 => ?_) (fun c2 => ?_)
    · skip
      replace c2 := (i_eq (a := 0) (b := 0) (by omega) (by omega)).mp (of_decide_eq_true c2)
      refine Pv.lit rfl ?_
      exact Pv.zret rfl (by rw [hQ]; exact ⟨b2_f (by simp [m_felt, m_alive, c1, c2]), rfl⟩)
    · skip
      replace c2 := mt (i_eq (a := 0) (b := 0) (by omega) (by omega)).mpr (of_decide_eq_false c2)
      omega
  · skip
    replace c1 := of_decide_eq_false c1
    refine Pv.aload rfl rfl ?_
    refine Pv.getR (v := .ref (p + 5)) rfl rfl (hS.o 4 (by decide)) ?_
    refine Pv.iload rfl rfl ?_
    refine Pv.ald (z := h_a S (t_d T k)) rfl (by rw [i_toNat (by omega)]; exact hS.a _ (by omega)) ?_
    refine Pv.lit rfl ?_
    refine Pv.icmp rfl (fun c3 => ?_) (fun c3 => ?_)
    · skip
      replace c3 := of_decide_eq_true c3
      refine Pv.lit rfl ?_
      refine Pv.istore (lo' := [some (.ref p), some (.ref t), some (.int (Int32.ofNat k)), some (.int (Int32.ofNat (t_r T k))), some (.int (Int32.ofNat (t_d T k))), some (.int 0)]) rfl rfl ?_
      refine Pv.iload rfl rfl ?_
      refine Pv.if0 rfl (fun c4 => ?_) (fun c4 => ?_)
      · skip
        replace c4 := (i_eq (a := 0) (b := 0) (by omega) (by omega)).mp (of_decide_eq_true c4)
        refine Pv.lit rfl ?_
        exact Pv.zret rfl (by rw [hQ]; exact ⟨b2_f (by simp [m_felt, m_alive, c1, c3, c4]), rfl⟩)
      · skip
        replace c4 := mt (i_eq (a := 0) (b := 0) (by omega) (by omega)).mpr (of_decide_eq_false c4)
        omega
    · skip
      replace c3 := of_decide_eq_false c3
      refine Pv.lit rfl ?_
      refine Pv.goto rfl ?_
      refine Pv.istore (lo' := [some (.ref p), some (.ref t), some (.int (Int32.ofNat k)), some (.int (Int32.ofNat (t_r T k))), some (.int (Int32.ofNat (t_d T k))), some (.int 1)]) rfl rfl ?_
      refine Pv.iload rfl rfl ?_
      refine Pv.if0 rfl (fun c5 => ?_) (fun c5 => ?_)
      · skip
        replace c5 := (i_eq (a := 1) (b := 0) (by omega) (by omega)).mp (of_decide_eq_true c5)
        omega
      · skip
        replace c5 := mt (i_eq (a := 1) (b := 0) (by omega) (by omega)).mpr (of_decide_eq_false c5)
        refine Pv.aload rfl rfl ?_
        refine Pv.getR (v := .ref (p + 5)) rfl rfl (hS.o 4 (by decide)) ?_
        refine Pv.iload rfl rfl ?_
        refine Pv.ald (z := h_a S (t_r T k)) rfl (by rw [i_toNat (by omega)]; exact hS.a _ (by omega)) ?_
        refine Pv.aload rfl rfl ?_
        refine Pv.getR (v := .ref (p + 5)) rfl rfl (hS.o 4 (by decide)) ?_
        refine Pv.iload rfl rfl ?_
        refine Pv.ald (z := h_a S (t_d T k)) rfl (by rw [i_toNat (by omega)]; exact hS.a _ (by omega)) ?_
        refine Pv.icmp rfl (fun c6 => ?_) (fun c6 => ?_)
        · skip
          replace c6 := of_decide_eq_true c6
          refine Pv.lit rfl ?_
          exact Pv.zret rfl (by rw [hQ]; exact ⟨b2_f (by simp [m_felt, m_alive, c1, c3, c5, c6]), rfl⟩)
        · skip
          replace c6 := of_decide_eq_false c6
          refine Pv.aload rfl rfl ?_
          refine Pv.iload rfl rfl ?_
          refine Pv.iload rfl rfl ?_
          refine Pv.callVI (as := [.ref p, .int (Int32.ofNat (t_r T k)), .int (Int32.ofNat (t_d T k))]) (rest := []) (z := m_apart S (t_r T k) (t_d T k)) rfl rfl rfl (f_apartOf (m := t_r T k) (o := t_d T k) hS (by omega) (by omega)) ?_
          refine Pv.aload rfl rfl ?_
          refine Pv.getR (v := .ref (t + 7)) rfl rfl (hT.o 6 (by decide)) ?_
          refine Pv.iload rfl rfl ?_
          refine Pv.ald (z := t_dd T k) rfl (by rw [i_toNat (by omega)]; exact hT.dd _ (by omega)) ?_
          refine Pv.icmp rfl (fun c7 => ?_) (fun c7 => ?_)
          · skip
            replace c7 := of_decide_eq_true c7
            refine Pv.lit rfl ?_
            exact Pv.zret rfl (by rw [hQ]; exact ⟨b2_f (by simp [m_felt, m_alive, c1, c3, c5, c6, c7]), rfl⟩)
          · skip
            replace c7 := of_decide_eq_false c7
            refine Pv.lit rfl ?_
            refine Pv.goto rfl ?_
            exact Pv.zret rfl (by rw [hQ]; exact ⟨b2_t (by simp [m_felt, m_alive, c1, c3, c5, c6, c7]), rfl⟩)
