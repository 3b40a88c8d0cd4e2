set_option maxRecDepth 100000 in
set_option maxHeartbeats 4000000 in
theorem o_isGood {F : FW} {t : Nat} {T : St} {S : Sh} (hG : GW F) (ht : F.2.1 0 13 = .ref t) (hT : TR F t T) (hS : SHR F 12 (t_m T) S) (j0 : t = 45 ∨ t = 53) (x : Int32) : Pm Z_X10_isGood [.ref 0, .int x] F (fun r F' => r = some (.int (b2i (nd (t_g T) x).isSome)) ∧ F' = F) := by
  refine Pm.of fun N => ?_
  obtain ⟨Q, hQ⟩ : ∃ Q : Option Value → FW → Prop, Q = (fun r F' => r = some (.int (b2i (nd (t_g T) x).isSome)) ∧ F' = F) := ⟨_, rfl⟩
  rw [← hQ]
  have b3 := hT.mb
  have b4 := hT.nb
  have b5 := hT.gb
  have b6 := m_from_lt S
  have b7 := hS.db
  refine (show Pv (ab_T L_X10_isGood) N 0 [some (.ref 0), some (.int x)] [] F Q from ?_)
  refine Pv.iload rfl rfl ?_
  refine Pv.if0 rfl (fun c1 => ?_) (fun c1 => ?_)
  · skip
    replace c1 := of_decide_eq_true c1
    refine Pv.lit rfl ?_
    exact Pv.zret rfl (by rw [hQ]; exact ⟨by rw [← nd_b (by omega)]; exact b2_f (by simp [c1]), rfl⟩)
  · skip
    replace c1 := of_decide_eq_false c1
    refine Pv.iload rfl rfl ?_
    refine Pv.aload rfl rfl ?_
    refine Pv.getR (v := .ref t) rfl rfl (ht) ?_
    refine Pv.getI (z := Int32.ofNat (t_g T)) rfl rfl (hT.g) ?_
    refine Pv.icmp rfl (fun c2 => ?_) (fun c2 => ?_)
    · skip
      replace c2 := of_decide_eq_true c2
      refine Pv.lit rfl ?_
      exact Pv.zret rfl (by rw [hQ]; exact ⟨by rw [← nd_b (by omega)]; exact b2_f (by simp [c1, c2]), rfl⟩)
    · skip
      replace c2 := of_decide_eq_false c2
      refine Pv.lit rfl ?_
      refine Pv.goto rfl ?_
      exact Pv.zret rfl (by rw [hQ]; exact ⟨by rw [← nd_b (by omega)]; exact b2_t (by simp [c1, c2]), rfl⟩)
set_option maxRecDepth 100000 in
set_option maxHeartbeats 4000000 in
theorem o_isMan {F : FW} {t : Nat} {T : St} {S : Sh} (hG : GW F) (ht : F.2.1 0 13 = .ref t) (hT : TR F t T) (hS : SHR F 12 (t_m T) S) (j0 : t = 45 ∨ t = 53) (x : Int32) : Pm Z_X10_isMan [.ref 0, .int x] F (fun r F' => r = some (.int (b2i (nd (t_m T) x).isSome)) ∧ F' = F) := by
  refine Pm.of fun N => ?_
  obtain ⟨Q, hQ⟩ : ∃ Q : Option Value → FW → Prop, Q = (fun r F' => r = some (.int (b2i (nd (t_m T) x).isSome)) ∧ F' = F) := ⟨_, rfl⟩
  rw [← hQ]
  have b3 := hT.mb
  have b4 := hT.nb
  have b5 := hT.gb
  have b6 := m_from_lt S
  have b7 := hS.db
  refine (show Pv (ab_T L_X10_isMan) N 0 [some (.ref 0), some (.int x)] [] F Q from ?_)
  refine Pv.iload rfl rfl ?_
  refine Pv.if0 rfl (fun c1 => ?_) (fun c1 => ?_)
  · skip
    replace c1 := of_decide_eq_true c1
    refine Pv.lit rfl ?_
    exact Pv.zret rfl (by rw [hQ]; exact ⟨by rw [← nd_b (by omega)]; exact b2_f (by simp [c1]), rfl⟩)
  · skip
    replace c1 := of_decide_eq_false c1
    refine Pv.iload rfl rfl ?_
    refine Pv.aload rfl rfl ?_
    refine Pv.getR (v := .ref t) rfl rfl (ht) ?_
    refine Pv.getI (z := Int32.ofNat (t_m T)) rfl rfl (hT.m) ?_
    refine Pv.icmp rfl (fun c2 => ?_) (fun c2 => ?_)
    · skip
      replace c2 := of_decide_eq_true c2
      refine Pv.lit rfl ?_
      exact Pv.zret rfl (by rw [hQ]; exact ⟨by rw [← nd_b (by omega)]; exact b2_f (by simp [c1, c2]), rfl⟩)
    · skip
      replace c2 := of_decide_eq_false c2
      refine Pv.lit rfl ?_
      refine Pv.goto rfl ?_
      exact Pv.zret rfl (by rw [hQ]; exact ⟨by rw [← nd_b (by omega)]; exact b2_t (by simp [c1, c2]), rfl⟩)
set_option maxRecDepth 100000 in
set_option maxHeartbeats 4000000 in
theorem o_isShore {F : FW} (x : Int32) : Pm Z_X10_isShore [.int x] F (fun r F' => r = some (.int (b2i (nd 2 x).isSome)) ∧ F' = F) := by
  refine Pm.of fun N => ?_
  obtain ⟨Q, hQ⟩ : ∃ Q : Option Value → FW → Prop, Q = (fun r F' => r = some (.int (b2i (nd 2 x).isSome)) ∧ F' = F) := ⟨_, rfl⟩
  rw [← hQ]
  refine (show Pv (ab_T L_X10_isShore) N 0 [some (.int x)] [] F Q from ?_)
  refine Pv.iload rfl rfl ?_
  refine Pv.if0 rfl (fun c1 => ?_) (fun c1 => ?_)
  · skip
    replace c1 := of_decide_eq_true c1
    refine Pv.lit rfl ?_
    refine Pv.goto rfl ?_
    exact Pv.zret rfl (by rw [hQ]; exact ⟨by rw [← nd_2]; exact b2_t (by simp [c1]), rfl⟩)
  · skip
    replace c1 := of_decide_eq_false c1
    refine Pv.iload rfl rfl ?_
    refine Pv.lit rfl ?_
    refine Pv.icmp rfl (fun c2 => ?_) (fun c2 => ?_)
    · skip
      replace c2 : decide (x = 1) = false := by simpa using c2
      replace c2 := of_decide_eq_false c2
      refine Pv.lit rfl ?_
      exact Pv.zret rfl (by rw [hQ]; exact ⟨by rw [← nd_2]; exact b2_f (by simp [c1, c2]), rfl⟩)
    · skip
      replace c2 : decide (x = 1) = true := by simpa using c2
      replace c2 := of_decide_eq_true c2
      refine Pv.lit rfl ?_
      refine Pv.goto rfl ?_
      exact Pv.zret rfl (by rw [hQ]; exact ⟨by rw [← nd_2]; exact b2_t (by simp [c1, c2]), rfl⟩)
set_option maxRecDepth 100000 in
set_option maxHeartbeats 4000000 in
theorem o_isSlot {F : FW} {t : Nat} {T : St} {S : Sh} (hG : GW F) (ht : F.2.1 0 13 = .ref t) (hT : TR F t T) (hS : SHR F 12 (t_m T) S) (j0 : t = 45 ∨ t = 53) (x y : Int32) : Pm Z_X10_isSlot [.ref 0, .int x, .int y] F (fun r F' => r = some (.int (b2i ((nd (t_g T) x).isSome && (nd 2 y).isSome))) ∧ F' = F) := by
  refine Pm.of fun N => ?_
  obtain ⟨Q, hQ⟩ : ∃ Q : Option Value → FW → Prop, Q = (fun r F' => r = some (.int (b2i ((nd (t_g T) x).isSome && (nd 2 y).isSome))) ∧ F' = F) := ⟨_, rfl⟩
  rw [← hQ]
  have b3 := hT.mb
  have b4 := hT.nb
  have b5 := hT.gb
  have b6 := m_from_lt S
  have b7 := hS.db
  refine (show Pv (ab_T (L_X10_isSlot Z_X10_isGood Z_X10_isShore)) N 0 [some (.ref 0), some (.int x), some (.int y)] [] F Q from ?_)
  refine Pv.aload rfl rfl ?_
  refine Pv.iload rfl rfl ?_
  refine Pv.callVI (as := [.ref 0, .int x]) (rest := []) (z := b2i (nd (t_g T) x).isSome) rfl rfl rfl (o_isGood hG ht hT hS j0 x) ?_
  refine Pv.if0 rfl (fun c1 => ?_) (fun c1 => ?_)
  · skip
    replace c1 := of_decide_eq_true c1
    replace c1 := b2z.mp c1
    refine Pv.lit rfl ?_
    exact Pv.zret rfl (by rw [hQ]; exact ⟨b2_f (by simp [c1]), rfl⟩)
  · skip
    replace c1 := of_decide_eq_false c1
    replace c1 := b2n.mp c1
    refine Pv.iload rfl rfl ?_
    refine Pv.callI (as := [.int y]) (rest := []) (z := b2i (nd 2 y).isSome) rfl rfl rfl (o_isShore y) ?_
    refine Pv.if0 rfl (fun c2 => ?_) (fun c2 => ?_)
    · skip
      replace c2 := of_decide_eq_true c2
      replace c2 := b2z.mp c2
      refine Pv.lit rfl ?_
      exact Pv.zret rfl (by rw [hQ]; exact ⟨b2_f (by simp [c1, c2]), rfl⟩)
    · skip
      replace c2 := of_decide_eq_false c2
      replace c2 := b2n.mp c2
      refine Pv.lit rfl ?_
      refine Pv.goto rfl ?_
      exact Pv.zret rfl (by rw [hQ]; exact ⟨b2_t (by simp [c1, c2]), rfl⟩)
set_option maxRecDepth 100000 in
set_option maxHeartbeats 4000000 in
theorem o_good {F : FW} {t : Nat} {T : St} {S : Sh} (hG : GW F) (ht : F.2.1 0 13 = .ref t) (hT : TR F t T) (hS : SHR F 12 (t_m T) S) (j0 : t = 45 ∨ t = 53) (x y w : Int32) : Pm Z_X10_good [.ref 0, .int x, .int y, .int w] F (fun r F' => r = some (.int (a_good T S x y w)) ∧ F' = F) := by
  refine Pm.of fun N => ?_
  obtain ⟨Q, hQ⟩ : ∃ Q : Option Value → FW → Prop, Q = (fun r F' => r = some (.int (a_good T S x y w)) ∧ F' = F) := ⟨_, rfl⟩
  rw [← hQ]
  have b3 := hT.mb
  have b4 := hT.nb
  have b5 := hT.gb
  have b6 := m_from_lt S
  have b7 := hS.db
  refine (show Pv (ab_T (L_X10_good Z_X10_isSlot Z_X10_slotOf Z_X7_amountOf Z_X6_lackAt Z_X6_isFalse)) N 0 [some (.ref 0), some (.int x), some (.int y), some (.int w), none] [] F Q from ?_)
  refine Pv.aload rfl rfl ?_
  refine Pv.iload rfl rfl ?_
  refine Pv.iload rfl rfl ?_
  refine Pv.callVI (as := [.ref 0, .int x, .int y]) (rest := []) (z := b2i ((nd (t_g T) x).isSome && (nd 2 y).isSome)) rfl rfl rfl (o_isSlot hG ht hT hS j0 x y) ?_
  refine Pv.if0 rfl (fun c1 => ?_) (fun c1 => ?_)
  · skip
    replace c1 : decide (b2i ((nd (t_g T) x).isSome && (nd 2 y).isSome) = 0) = false := by simpa using c1
    replace c1 := of_decide_eq_false c1
    replace c1 := b2n.mp c1
    obtain ⟨g, s, hg, hs, hgl, hsl, rfl, rfl⟩ := gs_t c1
    refine Pv.iload rfl rfl ?_
    refine Pv.iload rfl rfl ?_
    refine Pv.callI (as := [.int (Int32.ofNat g), .int (Int32.ofNat s)]) (rest := []) (z := Int32.ofNat (2 * g + s)) rfl rfl rfl (f_slotOf (g := g) (s := s)) ?_
    refine Pv.istore (lo' := [some (.ref 0), some (.int (Int32.ofNat g)), some (.int (Int32.ofNat s)), some (.int w), some (.int (Int32.ofNat (2 * g + s)))]) rfl rfl ?_
    refine Pv.iload rfl rfl ?_
    rcases nd_8 w with rfl | rfl | rfl | rfl | rfl | rfl | rfl | rfl | hw
    · refine Pv.tab (t := 64) rfl rfl ?_
      refine Pv.aload rfl rfl ?_
      refine Pv.getR (v := .ref 12) rfl rfl (GW.at (a := 0) (k := 4) (b := 12) hG (by decide)) ?_
      refine Pv.getR (v := .ref 13) rfl rfl (hS.o 0 (by decide)) ?_
      refine Pv.iload rfl rfl ?_
      refine Pv.ald (z := h_s S (2 * g + s)) rfl (by rw [i_toNat (by omega)]; exact hS.s _ (by omega)) ?_
      exact Pv.ret rfl (by rw [hQ]; exact ⟨by unfold a_good; rw [aGS_t hg hs]; try rfl, rfl⟩)
    · refine Pv.tab (t := 75) rfl rfl ?_
      refine Pv.aload rfl rfl ?_
      refine Pv.getR (v := .ref 12) rfl rfl (GW.at (a := 0) (k := 4) (b := 12) hG (by decide)) ?_
      refine Pv.getR (v := .ref 14) rfl rfl (hS.o 1 (by decide)) ?_
      refine Pv.iload rfl rfl ?_
      refine Pv.ald (z := h_h S (2 * g + s)) rfl (by rw [i_toNat (by omega)]; exact hS.h _ (by omega)) ?_
      exact Pv.ret rfl (by rw [hQ]; exact ⟨by unfold a_good; rw [aGS_t hg hs]; try rfl, rfl⟩)
    · refine Pv.tab (t := 86) rfl rfl ?_
      refine Pv.aload rfl rfl ?_
      refine Pv.getR (v := .ref t) rfl rfl (ht) ?_
      refine Pv.lit rfl ?_
      refine Pv.iload rfl rfl ?_
      refine Pv.callVI (as := [.ref t, .int 1, .int (Int32.ofNat (2 * g + s))]) (rest := []) (z := t_a T (1 * 12 + (2 * g + s))) rfl rfl rfl (f_amountOf (s := 1) (k := 2 * g + s) hT (by omega)) ?_
      exact Pv.ret rfl (by rw [hQ]; exact ⟨by unfold a_good; rw [aGS_t hg hs]; try rfl, rfl⟩)
    · refine Pv.tab (t := 97) rfl rfl ?_
      refine Pv.aload rfl rfl ?_
      refine Pv.getR (v := .ref t) rfl rfl (ht) ?_
      refine Pv.lit rfl ?_
      refine Pv.iload rfl rfl ?_
      refine Pv.callVI (as := [.ref t, .int 2, .int (Int32.ofNat (2 * g + s))]) (rest := []) (z := t_a T (2 * 12 + (2 * g + s))) rfl rfl rfl (f_amountOf (s := 2) (k := 2 * g + s) hT (by omega)) ?_
      exact Pv.ret rfl (by rw [hQ]; exact ⟨by unfold a_good; rw [aGS_t hg hs]; try rfl, rfl⟩)
    · refine Pv.tab (t := 108) rfl rfl ?_
      refine Pv.aload rfl rfl ?_
      refine Pv.getR (v := .ref t) rfl rfl (ht) ?_
      refine Pv.lit rfl ?_
      refine Pv.iload rfl rfl ?_
      refine Pv.callVI (as := [.ref t, .int 3, .int (Int32.ofNat (2 * g + s))]) (rest := []) (z := t_a T (3 * 12 + (2 * g + s))) rfl rfl rfl (f_amountOf (s := 3) (k := 2 * g + s) hT (by omega)) ?_
      exact Pv.ret rfl (by rw [hQ]; exact ⟨by unfold a_good; rw [aGS_t hg hs]; try rfl, rfl⟩)
    · refine Pv.tab (t := 119) rfl rfl ?_
      refine Pv.aload rfl rfl ?_
      refine Pv.getR (v := .ref 12) rfl rfl (GW.at (a := 0) (k := 4) (b := 12) hG (by decide)) ?_
      refine Pv.aload rfl rfl ?_
      refine Pv.getR (v := .ref t) rfl rfl (ht) ?_
      refine Pv.iload rfl rfl ?_
      refine Pv.callVI (as := [.ref 12, .ref t, .int (Int32.ofNat (2 * g + s))]) (rest := []) (z := m_lack T S (2 * g + s)) rfl rfl rfl (f_lackAt (k := 2 * g + s) hT hS (by omega)) ?_
      exact Pv.ret rfl (by rw [hQ]; exact ⟨by unfold a_good; rw [aGS_t hg hs]; try rfl, rfl⟩)
    · refine Pv.tab (t := 133) rfl rfl ?_
      refine Pv.aload rfl rfl ?_
      refine Pv.getR (v := .ref 12) rfl rfl (GW.at (a := 0) (k := 4) (b := 12) hG (by decide)) ?_
      refine Pv.aload rfl rfl ?_
      refine Pv.getR (v := .ref t) rfl rfl (ht) ?_
      refine Pv.iload rfl rfl ?_
      refine Pv.callVI (as := [.ref 12, .ref t, .int (Int32.ofNat (2 * g + s))]) (rest := []) (z := b2i (m_false T S (2 * g + s))) rfl rfl rfl (f_isFalse (k := 2 * g + s) hT hS (by omega)) ?_
      refine Pv.if0 rfl (fun c2 => ?_) (fun c2 => ?_)
      · skip
        replace c2 := of_decide_eq_true c2
        replace c2 := b2z.mp c2
        refine Pv.lit rfl ?_
        exact Pv.ret rfl (by rw [hQ]; exact ⟨by unfold a_good; rw [aGS_t hg hs]; exact b2_f c2, rfl⟩)
      · skip
        replace c2 := of_decide_eq_false c2
        replace c2 := b2n.mp c2
        refine Pv.lit rfl ?_
        refine Pv.goto rfl ?_
        exact Pv.ret rfl (by rw [hQ]; exact ⟨by unfold a_good; rw [aGS_t hg hs]; exact b2_t c2, rfl⟩)
    · refine Pv.tab (t := 155) rfl rfl ?_
      refine Pv.aload rfl rfl ?_
      refine Pv.getR (v := .ref 12) rfl rfl (GW.at (a := 0) (k := 4) (b := 12) hG (by decide)) ?_
      refine Pv.getR (v := .ref 15) rfl rfl (hS.o 2 (by decide)) ?_
      refine Pv.iload rfl rfl ?_
      refine Pv.ald (z := h_u S (2 * g + s)) rfl (by rw [i_toNat (by omega)]; exact hS.u _ (by omega)) ?_
      exact Pv.ret rfl (by rw [hQ]; exact ⟨by unfold a_good; rw [aGS_t hg hs]; try rfl, rfl⟩)
    · refine Pv.tab (t := 166) rfl (nd_tab hw (by decide)) ?_
      refine Pv.lit rfl ?_
      exact Pv.ret rfl (by rw [hQ]; exact ⟨by unfold a_good; rw [aGS_t hg hs, hw], rfl⟩)
  · skip
    replace c1 : decide (b2i ((nd (t_g T) x).isSome && (nd 2 y).isSome) = 0) = true := by simpa using c1
    replace c1 := of_decide_eq_true c1
    replace c1 := b2z.mp c1
    refine Pv.lit rfl ?_
    exact Pv.ret rfl (by rw [hQ]; exact ⟨by unfold a_good; rw [aGS_f c1], rfl⟩)
set_option maxRecDepth 100000 in
set_option maxHeartbeats 4000000 in
theorem o_crossed {F : FW} {t : Nat} {T : St} {S : Sh} (hG : GW F) (ht : F.2.1 0 13 = .ref t) (hT : TR F t T) (hS : SHR F 12 (t_m T) S) (j0 : t = 45 ∨ t = 53) (x y : Int32) : Pm Z_X10_crossed [.ref 0, .int x, .int y] F (fun r F' => r = some (.int (a_crossed T S x y)) ∧ F' = F) := by
  refine Pm.of fun N => ?_
  obtain ⟨Q, hQ⟩ : ∃ Q : Option Value → FW → Prop, Q = (fun r F' => r = some (.int (a_crossed T S x y)) ∧ F' = F) := ⟨_, rfl⟩
  rw [← hQ]
  have b3 := hT.mb
  have b4 := hT.nb
  have b5 := hT.gb
  have b6 := m_from_lt S
  have b7 := hS.db
  refine (show Pv (ab_T (L_X10_crossed Z_X10_isSlot Z_X10_slotOf)) N 0 [some (.ref 0), some (.int x), some (.int y)] [] F Q from ?_)
  refine Pv.aload rfl rfl ?_
  refine Pv.iload rfl rfl ?_
  refine Pv.iload rfl rfl ?_
  refine Pv.callVI (as := [.ref 0, .int x, .int y]) (rest := []) (z := b2i ((nd (t_g T) x).isSome && (nd 2 y).isSome)) rfl rfl rfl (o_isSlot hG ht hT hS j0 x y) ?_
  refine Pv.if0 rfl (fun c1 => ?_) (fun c1 => ?_)
  · skip
    replace c1 := of_decide_eq_true c1
    replace c1 := b2z.mp c1
    refine Pv.lit rfl ?_
    exact Pv.ret rfl (by rw [hQ]; exact ⟨by unfold a_crossed; rw [aGS_f c1], rfl⟩)
  · skip
    replace c1 := of_decide_eq_false c1
    replace c1 := b2n.mp c1
    obtain ⟨g, s, hg, hs, hgl, hsl, rfl, rfl⟩ := gs_t c1
    refine Pv.aload rfl rfl ?_
    refine Pv.getR (v := .ref 12) rfl rfl (GW.at (a := 0) (k := 4) (b := 12) hG (by decide)) ?_
    refine Pv.getR (v := .ref 16) rfl rfl (hS.o 3 (by decide)) ?_
    refine Pv.iload rfl rfl ?_
    refine Pv.iload rfl rfl ?_
    refine Pv.callI (as := [.int (Int32.ofNat g), .int (Int32.ofNat s)]) (rest := [.ref 16]) (z := Int32.ofNat (2 * g + s)) rfl rfl rfl (f_slotOf (g := g) (s := s)) ?_
    refine Pv.ald (z := h_c S (2 * g + s)) rfl (by rw [i_toNat (by omega)]; exact hS.c _ (by omega)) ?_
    refine Pv.goto rfl ?_
    exact Pv.ret rfl (by rw [hQ]; exact ⟨by unfold a_crossed; rw [aGS_t hg hs]; try rfl, rfl⟩)
set_option maxRecDepth 100000 in
set_option maxHeartbeats 4000000 in
theorem o_lacks {F : FW} {t : Nat} {T : St} {S : Sh} (hG : GW F) (ht : F.2.1 0 13 = .ref t) (hT : TR F t T) (hS : SHR F 12 (t_m T) S) (j0 : t = 45 ∨ t = 53) (y : Int32) : Pm Z_X10_lacks [.ref 0, .int y] F (fun r F' => r = some (.int (a_lacks T S y)) ∧ F' = F) := by
  refine Pm.of fun N => ?_
  obtain ⟨Q, hQ⟩ : ∃ Q : Option Value → FW → Prop, Q = (fun r F' => r = some (.int (a_lacks T S y)) ∧ F' = F) := ⟨_, rfl⟩
  rw [← hQ]
  have b3 := hT.mb
  have b4 := hT.nb
  have b5 := hT.gb
  have b6 := m_from_lt S
  have b7 := hS.db
  refine (show Pv (ab_T (L_X10_lacks Z_X10_isShore Z_X10_slotOf Z_X6_lackAt)) N 0 [some (.ref 0), some (.int y), none, none] [] F Q from ?_)
  refine Pv.iload rfl rfl ?_
  refine Pv.callI (as := [.int y]) (rest := []) (z := b2i (nd 2 y).isSome) rfl rfl rfl (o_isShore y) ?_
  refine Pv.if0 rfl (fun c1 => ?_) (fun c1 => ?_)
  · skip
    replace c1 : decide (b2i (nd 2 y).isSome = 0) = false := by simpa using c1
    replace c1 := of_decide_eq_false c1
    replace c1 := b2n.mp c1
    obtain ⟨s, hs, hsl, rfl⟩ := nd_t c1
    refine Pv.lit rfl ?_
    refine Pv.istore (lo' := [some (.ref 0), some (.int (Int32.ofNat s)), some (.int 0), none]) rfl rfl ?_
    refine Pv.lit rfl ?_
    refine Pv.istore (lo' := [some (.ref 0), some (.int (Int32.ofNat s)), some (.int 0), some (.int 0)]) rfl rfl ?_
    refine Pv.lp (ι := Nat × Int32) (lof := fun ⟨k, b⟩ => [some (.ref 0), some (.int (Int32.ofNat s)), some (.int b), some (.int (Int32.ofNat k))]) (Ff := fun ⟨k, b⟩ => F) (P := fun ⟨k, b⟩ => k ≤ t_g T ∧ b = m_bits (fun g => !decide (m_lack T S (2 * g + s) ≤ 0)) id k) ?_ (0, 0) (⟨Nat.zero_le _, rfl⟩)
    rintro N2 hN3 ⟨k, b⟩ hi4 ih5
    refine (show Pv _ _ 13 [some (.ref 0), some (.int (Int32.ofNat s)), some (.int b), some (.int (Int32.ofNat k))] [] F Q from ?_)
    obtain ⟨hk, hb⟩ := hi4
    refine Pv.iloadS rfl rfl ?_
    refine Pv.aload rfl rfl ?_
    refine Pv.getR (v := .ref t) rfl rfl (ht) ?_
    refine Pv.getI (z := Int32.ofNat (t_g T)) rfl rfl (hT.g) ?_
    refine Pv.icmp rfl (fun c6 => ?_) (fun c6 => ?_)
    · skip
      replace c6 := (i_le (a := t_g T) (b := k) (by omega) (by omega)).mp (of_decide_eq_true c6)
      refine Pv.iload rfl rfl ?_
      exact Pv.ret rfl (by rw [hQ]; exact ⟨by unfold a_lacks; rw [hs]; dsimp only; rw [hb, show k = t_g T by omega], rfl⟩)
    · skip
      replace c6 := mt (i_le (a := t_g T) (b := k) (by omega) (by omega)).mpr (of_decide_eq_false c6)
      refine Pv.aload rfl rfl ?_
      refine Pv.getR (v := .ref 12) rfl rfl (GW.at (a := 0) (k := 4) (b := 12) hG (by decide)) ?_
      refine Pv.aload rfl rfl ?_
      refine Pv.getR (v := .ref t) rfl rfl (ht) ?_
      refine Pv.iload rfl rfl ?_
      refine Pv.iload rfl rfl ?_
      refine Pv.callI (as := [.int (Int32.ofNat k), .int (Int32.ofNat s)]) (rest := [.ref t, .ref 12]) (z := Int32.ofNat (2 * k + s)) rfl rfl rfl (f_slotOf (g := k) (s := s)) ?_
      refine Pv.callVI (as := [.ref 12, .ref t, .int (Int32.ofNat (2 * k + s))]) (rest := []) (z := m_lack T S (2 * k + s)) rfl rfl rfl (f_lackAt (k := 2 * k + s) hT hS (by omega)) ?_
      refine Pv.if0 rfl (fun c7 => ?_) (fun c7 => ?_)
      · skip
        replace c7 := of_decide_eq_true c7
        refine Pv.iinc (y := Int32.ofNat (k + 1)) (lo' := [some (.ref 0), some (.int (Int32.ofNat s)), some (.int b), some (.int (Int32.ofNat (k + 1)))]) rfl rfl (i_add k 1) rfl ?_
        refine Pv.goto rfl ?_
        exact ih5 (k + 1, b) (⟨by omega, hb.trans (m_bits_f (by simp [c1, c6, c7])).symm⟩)
      · skip
        replace c7 := of_decide_eq_false c7
        refine Pv.iload rfl rfl ?_
        refine Pv.lit rfl ?_
        refine Pv.iload rfl rfl ?_
        refine Pv.bin (z := 1 <<< ((Int32.ofNat k) &&& 31)) rfl (rfl) ?_
        refine Pv.bin (z := b ||| (1 <<< ((Int32.ofNat k) &&& 31))) rfl (rfl) ?_
        refine Pv.istore (lo' := [some (.ref 0), some (.int (Int32.ofNat s)), some (.int (b ||| (1 <<< ((Int32.ofNat k) &&& 31)))), some (.int (Int32.ofNat k))]) rfl rfl ?_
        refine Pv.iinc (y := Int32.ofNat (k + 1)) (lo' := [some (.ref 0), some (.int (Int32.ofNat s)), some (.int (b ||| (1 <<< ((Int32.ofNat k) &&& 31)))), some (.int (Int32.ofNat (k + 1)))]) rfl rfl (i_add k 1) rfl ?_
        refine Pv.goto rfl ?_
        exact ih5 (k + 1, b ||| (1 <<< ((Int32.ofNat k) &&& 31))) (⟨by omega, by rw [m_bits_t (f := (fun g => !decide (m_lack T S (2 * g + s) ≤ 0))) (g := id) (k := k) (by simp [c1, c6, c7]), hb]; try rfl⟩)
  · skip
    replace c1 : decide (b2i (nd 2 y).isSome = 0) = true := by simpa using c1
    replace c1 := of_decide_eq_true c1
    replace c1 := b2z.mp c1
    refine Pv.lit rfl ?_
    exact Pv.ret rfl (by rw [hQ]; exact ⟨by unfold a_lacks; rw [nd_f c1], rfl⟩)
set_option maxRecDepth 100000 in
set_option maxHeartbeats 4000000 in
theorem o_falses {F : FW} {t : Nat} {T : St} {S : Sh} (hG : GW F) (ht : F.2.1 0 13 = .ref t) (hT : TR F t T) (hS : SHR F 12 (t_m T) S) (j0 : t = 45 ∨ t = 53) (y : Int32) : Pm Z_X10_falses [.ref 0, .int y] F (fun r F' => r = some (.int (a_falses T S y)) ∧ F' = F) := by
  refine Pm.of fun N => ?_
  obtain ⟨Q, hQ⟩ : ∃ Q : Option Value → FW → Prop, Q = (fun r F' => r = some (.int (a_falses T S y)) ∧ F' = F) := ⟨_, rfl⟩
  rw [← hQ]
  have b3 := hT.mb
  have b4 := hT.nb
  have b5 := hT.gb
  have b6 := m_from_lt S
  have b7 := hS.db
  refine (show Pv (ab_T (L_X10_falses Z_X10_isShore Z_X10_slotOf Z_X6_isFalse)) N 0 [some (.ref 0), some (.int y), none, none] [] F Q from ?_)
  refine Pv.iload rfl rfl ?_
  refine Pv.callI (as := [.int y]) (rest := []) (z := b2i (nd 2 y).isSome) rfl rfl rfl (o_isShore y) ?_
  refine Pv.if0 rfl (fun c1 => ?_) (fun c1 => ?_)
  · skip
    replace c1 : decide (b2i (nd 2 y).isSome = 0) = false := by simpa using c1
    replace c1 := of_decide_eq_false c1
    replace c1 := b2n.mp c1
    obtain ⟨s, hs, hsl, rfl⟩ := nd_t c1
    refine Pv.lit rfl ?_
    refine Pv.istore (lo' := [some (.ref 0), some (.int (Int32.ofNat s)), some (.int 0), none]) rfl rfl ?_
    refine Pv.lit rfl ?_
    refine Pv.istore (lo' := [some (.ref 0), some (.int (Int32.ofNat s)), some (.int 0), some (.int 0)]) rfl rfl ?_
    refine Pv.lp (ι := Nat × Int32) (lof := fun ⟨k, b⟩ => [some (.ref 0), some (.int (Int32.ofNat s)), some (.int b), some (.int (Int32.ofNat k))]) (Ff := fun ⟨k, b⟩ => F) (P := fun ⟨k, b⟩ => k ≤ t_g T ∧ b = m_bits (fun g => m_false T S (2 * g + s)) id k) ?_ (0, 0) (⟨Nat.zero_le _, rfl⟩)
    rintro N2 hN3 ⟨k, b⟩ hi4 ih5
    refine (show Pv _ _ 13 [some (.ref 0), some (.int (Int32.ofNat s)), some (.int b), some (.int (Int32.ofNat k))] [] F Q from ?_)
    obtain ⟨hk, hb⟩ := hi4
    refine Pv.iloadS rfl rfl ?_
    refine Pv.aload rfl rfl ?_
    refine Pv.getR (v := .ref t) rfl rfl (ht) ?_
    refine Pv.getI (z := Int32.ofNat (t_g T)) rfl rfl (hT.g) ?_
    refine Pv.icmp rfl (fun c6 => ?_) (fun c6 => ?_)
    · skip
      replace c6 := (i_le (a := t_g T) (b := k) (by omega) (by omega)).mp (of_decide_eq_true c6)
      refine Pv.iload rfl rfl ?_
      exact Pv.ret rfl (by rw [hQ]; exact ⟨by unfold a_falses; rw [hs]; dsimp only; rw [hb, show k = t_g T by omega], rfl⟩)
    · skip
      replace c6 := mt (i_le (a := t_g T) (b := k) (by omega) (by omega)).mpr (of_decide_eq_false c6)
      refine Pv.aload rfl rfl ?_
      refine Pv.getR (v := .ref 12) rfl rfl (GW.at (a := 0) (k := 4) (b := 12) hG (by decide)) ?_
      refine Pv.aload rfl rfl ?_
      refine Pv.getR (v := .ref t) rfl rfl (ht) ?_
      refine Pv.iload rfl rfl ?_
      refine Pv.iload rfl rfl ?_
      refine Pv.callI (as := [.int (Int32.ofNat k), .int (Int32.ofNat s)]) (rest := [.ref t, .ref 12]) (z := Int32.ofNat (2 * k + s)) rfl rfl rfl (f_slotOf (g := k) (s := s)) ?_
      refine Pv.callVI (as := [.ref 12, .ref t, .int (Int32.ofNat (2 * k + s))]) (rest := []) (z := b2i (m_false T S (2 * k + s))) rfl rfl rfl (f_isFalse (k := 2 * k + s) hT hS (by omega)) ?_
      refine Pv.if0 rfl (fun c7 => ?_) (fun c7 => ?_)
      · skip
        replace c7 := of_decide_eq_true c7
        replace c7 := b2z.mp c7
        refine Pv.iinc (y := Int32.ofNat (k + 1)) (lo' := [some (.ref 0), some (.int (Int32.ofNat s)), some (.int b), some (.int (Int32.ofNat (k + 1)))]) rfl rfl (i_add k 1) rfl ?_
        refine Pv.goto rfl ?_
        exact ih5 (k + 1, b) (⟨by omega, hb.trans (m_bits_f (by simp [c1, c6, c7])).symm⟩)
      · skip
        replace c7 := of_decide_eq_false c7
        replace c7 := b2n.mp c7
        refine Pv.iload rfl rfl ?_
        refine Pv.lit rfl ?_
        refine Pv.iload rfl rfl ?_
        refine Pv.bin (z := 1 <<< ((Int32.ofNat k) &&& 31)) rfl (rfl) ?_
        refine Pv.bin (z := b ||| (1 <<< ((Int32.ofNat k) &&& 31))) rfl (rfl) ?_
        refine Pv.istore (lo' := [some (.ref 0), some (.int (Int32.ofNat s)), some (.int (b ||| (1 <<< ((Int32.ofNat k) &&& 31)))), some (.int (Int32.ofNat k))]) rfl rfl ?_
        refine Pv.iinc (y := Int32.ofNat (k + 1)) (lo' := [some (.ref 0), some (.int (Int32.ofNat s)), some (.int (b ||| (1 <<< ((Int32.ofNat k) &&& 31)))), some (.int (Int32.ofNat (k + 1)))]) rfl rfl (i_add k 1) rfl ?_
        refine Pv.goto rfl ?_
        exact ih5 (k + 1, b ||| (1 <<< ((Int32.ofNat k) &&& 31))) (⟨by omega, by rw [m_bits_t (f := (fun g => m_false T S (2 * g + s))) (g := id) (k := k) (by simp [c1, c6, c7]), hb]; try rfl⟩)
  · skip
    replace c1 : decide (b2i (nd 2 y).isSome = 0) = true := by simpa using c1
    replace c1 := of_decide_eq_true c1
    replace c1 := b2z.mp c1
    refine Pv.lit rfl ?_
    exact Pv.ret rfl (by rw [hQ]; exact ⟨by unfold a_falses; rw [nd_f c1], rfl⟩)
set_option maxRecDepth 100000 in
set_option maxHeartbeats 4000000 in
theorem o_hoarded {F : FW} {t : Nat} {T : St} {S : Sh} (hG : GW F) (ht : F.2.1 0 13 = .ref t) (hT : TR F t T) (hS : SHR F 12 (t_m T) S) (j0 : t = 45 ∨ t = 53) (y : Int32) : Pm Z_X10_hoarded [.ref 0, .int y] F (fun r F' => r = some (.int (a_hoarded T S y)) ∧ F' = F) := by
  refine Pm.of fun N => ?_
  obtain ⟨Q, hQ⟩ : ∃ Q : Option Value → FW → Prop, Q = (fun r F' => r = some (.int (a_hoarded T S y)) ∧ F' = F) := ⟨_, rfl⟩
  rw [← hQ]
  have b3 := hT.mb
  have b4 := hT.nb
  have b5 := hT.gb
  have b6 := m_from_lt S
  have b7 := hS.db
  refine (show Pv (ab_T (L_X10_hoarded Z_X10_isShore Z_X10_slotOf)) N 0 [some (.ref 0), some (.int y), none, none, none, none] [] F Q from ?_)
  refine Pv.iload rfl rfl ?_
  refine Pv.callI (as := [.int y]) (rest := []) (z := b2i (nd 2 y).isSome) rfl rfl rfl (o_isShore y) ?_
  refine Pv.if0 rfl (fun c1 => ?_) (fun c1 => ?_)
  · skip
    replace c1 : decide (b2i (nd 2 y).isSome = 0) = false := by simpa using c1
    replace c1 := of_decide_eq_false c1
    replace c1 := b2n.mp c1
    obtain ⟨s, hs, hsl, rfl⟩ := nd_t c1
    refine Pv.lit rfl ?_
    refine Pv.istore (lo' := [some (.ref 0), some (.int (Int32.ofNat s)), some (.int 0), none, none, none]) rfl rfl ?_
    refine Pv.lit rfl ?_
    refine Pv.istore (lo' := [some (.ref 0), some (.int (Int32.ofNat s)), some (.int 0), some (.int (-1)), none, none]) rfl rfl ?_
    refine Pv.lit rfl ?_
    refine Pv.istore (lo' := [some (.ref 0), some (.int (Int32.ofNat s)), some (.int 0), some (.int (-1)), some (.int 0), none]) rfl rfl ?_
    refine Pv.lp (ι := Nat × Int32 × Int32 × (Option Value)) (lof := fun ⟨k, b, e, o2⟩ => [some (.ref 0), some (.int (Int32.ofNat s)), some (.int b), some (.int e), some (.int (Int32.ofNat k)), o2]) (Ff := fun ⟨k, b, e, o2⟩ => F) (P := fun ⟨k, b, e, o2⟩ => k ≤ t_g T ∧ (b, e) = m_top (fun g => h_h S (2 * g + s)) k) ?_ (0, 0, (-1), none) (⟨Nat.zero_le _, rfl⟩)
    rintro N3 hN4 ⟨k, b, e, o2⟩ hi5 ih6
    refine (show Pv _ _ 16 [some (.ref 0), some (.int (Int32.ofNat s)), some (.int b), some (.int e), some (.int (Int32.ofNat k)), o2] [] F Q from ?_)
    obtain ⟨hk, hb⟩ := hi5
    refine Pv.iloadS rfl rfl ?_
    refine Pv.aload rfl rfl ?_
    refine Pv.getR (v := .ref t) rfl rfl (ht) ?_
    refine Pv.getI (z := Int32.ofNat (t_g T)) rfl rfl (hT.g) ?_
    refine Pv.icmp rfl (fun c7 => ?_) (fun c7 => ?_)
    · skip
      replace c7 := (i_le (a := t_g T) (b := k) (by omega) (by omega)).mp (of_decide_eq_true c7)
      refine Pv.iload rfl rfl ?_
      exact Pv.ret rfl (by rw [hQ]; exact ⟨by unfold a_hoarded; rw [hs]; dsimp only; rw [show t_g T = k by omega, ← hb], rfl⟩)
    · skip
      replace c7 := mt (i_le (a := t_g T) (b := k) (by omega) (by omega)).mpr (of_decide_eq_false c7)
      refine Pv.aload rfl rfl ?_
      refine Pv.getR (v := .ref 12) rfl rfl (GW.at (a := 0) (k := 4) (b := 12) hG (by decide)) ?_
      refine Pv.getR (v := .ref 14) rfl rfl (hS.o 1 (by decide)) ?_
      refine Pv.iload rfl rfl ?_
      refine Pv.iload rfl rfl ?_
      refine Pv.callI (as := [.int (Int32.ofNat k), .int (Int32.ofNat s)]) (rest := [.ref 14]) (z := Int32.ofNat (2 * k + s)) rfl rfl rfl (f_slotOf (g := k) (s := s)) ?_
      refine Pv.ald (z := h_h S (2 * k + s)) rfl (by rw [i_toNat (by omega)]; exact hS.h _ (by omega)) ?_
      refine Pv.istore (lo' := [some (.ref 0), some (.int (Int32.ofNat s)), some (.int b), some (.int e), some (.int (Int32.ofNat k)), some (.int (h_h S (2 * k + s)))]) rfl rfl ?_
      refine Pv.iload rfl rfl ?_
      refine Pv.iload rfl rfl ?_
      refine Pv.icmp rfl (fun c8 => ?_) (fun c8 => ?_)
      · skip
        replace c8 := of_decide_eq_true c8
        refine Pv.iinc (y := Int32.ofNat (k + 1)) (lo' := [some (.ref 0), some (.int (Int32.ofNat s)), some (.int b), some (.int e), some (.int (Int32.ofNat (k + 1))), some (.int (h_h S (2 * k + s)))]) rfl rfl (i_add k 1) rfl ?_
        refine Pv.goto rfl ?_
        exact ih6 (k + 1, b, e, (some (.int (h_h S (2 * k + s))))) (⟨by omega, by show _ = (if _ then _ else _ : Int32 × Int32); rw [if_pos (by rw [← hb]; exact c8)]; exact hb⟩)
      · skip
        replace c8 := of_decide_eq_false c8
        refine Pv.iload rfl rfl ?_
        refine Pv.istore (lo' := [some (.ref 0), some (.int (Int32.ofNat s)), some (.int (h_h S (2 * k + s))), some (.int e), some (.int (Int32.ofNat k)), some (.int (h_h S (2 * k + s)))]) rfl rfl ?_
        refine Pv.iload rfl rfl ?_
        refine Pv.istore (lo' := [some (.ref 0), some (.int (Int32.ofNat s)), some (.int (h_h S (2 * k + s))), some (.int (Int32.ofNat k)), some (.int (Int32.ofNat k)), some (.int (h_h S (2 * k + s)))]) rfl rfl ?_
        refine Pv.iinc (y := Int32.ofNat (k + 1)) (lo' := [some (.ref 0), some (.int (Int32.ofNat s)), some (.int (h_h S (2 * k + s))), some (.int (Int32.ofNat k)), some (.int (Int32.ofNat (k + 1))), some (.int (h_h S (2 * k + s)))]) rfl rfl (i_add k 1) rfl ?_
        refine Pv.goto rfl ?_
        exact ih6 (k + 1, h_h S (2 * k + s), Int32.ofNat k, (some (.int (h_h S (2 * k + s))))) (⟨by omega, by show _ = (if _ then _ else _ : Int32 × Int32); rw [if_neg (by rw [← hb]; exact c8)]⟩)
  · skip
    replace c1 : decide (b2i (nd 2 y).isSome = 0) = true := by simpa using c1
    replace c1 := of_decide_eq_true c1
    replace c1 := b2z.mp c1
    refine Pv.lit rfl ?_
    exact Pv.ret rfl (by rw [hQ]; exact ⟨by unfold a_hoarded; rw [nd_f c1], rfl⟩)
set_option maxRecDepth 100000 in
set_option maxHeartbeats 4000000 in
theorem f_bitCount {F : FW} (x : Int32) : Pm Z_J6_bitCount_0f7a4 [.int x] F (fun r F' => r = some (.int (jbc x)) ∧ F' = F) := by
  refine Pm.of fun N => ?_
  obtain ⟨Q, hQ⟩ : ∃ Q : Option Value → FW → Prop, Q = (fun r F' => r = some (.int (jbc x)) ∧ F' = F) := ⟨_, rfl⟩
  rw [← hQ]
  refine (show Pv (ab_T L_J6_bitCount_0f7a4) N 0 [some (.int x)] [] F Q from ?_)
  refine Pv.iload rfl rfl ?_
  refine Pv.iload rfl rfl ?_
  refine Pv.lit rfl ?_
  refine Pv.bin (z := ((x : Int32).toUInt32 >>> ((1 : Int32).toUInt32 &&& Int32.toUInt32 31)).toInt32) rfl (rfl) ?_
  refine Pv.lit rfl ?_
  refine Pv.bin (z := (((x : Int32).toUInt32 >>> ((1 : Int32).toUInt32 &&& Int32.toUInt32 31)).toInt32) &&& 1431655765) rfl (rfl) ?_
  refine Pv.bin (z := x - ((((x : Int32).toUInt32 >>> ((1 : Int32).toUInt32 &&& Int32.toUInt32 31)).toInt32) &&& 1431655765)) rfl (rfl) ?_
  refine Pv.istore (lo' := [some (.int (x - ((((x : Int32).toUInt32 >>> ((1 : Int32).toUInt32 &&& Int32.toUInt32 31)).toInt32) &&& 1431655765)))]) rfl rfl ?_
  refine Pv.iload rfl rfl ?_
  refine Pv.lit rfl ?_
  refine Pv.bin (z := (x - ((((x : Int32).toUInt32 >>> ((1 : Int32).toUInt32 &&& Int32.toUInt32 31)).toInt32) &&& 1431655765)) &&& 858993459) rfl (rfl) ?_
  refine Pv.iload rfl rfl ?_
  refine Pv.lit rfl ?_
  refine Pv.bin (z := (((x - ((((x : Int32).toUInt32 >>> ((1 : Int32).toUInt32 &&& Int32.toUInt32 31)).toInt32) &&& 1431655765)) : Int32).toUInt32 >>> ((2 : Int32).toUInt32 &&& Int32.toUInt32 31)).toInt32) rfl (rfl) ?_
  refine Pv.lit rfl ?_
  refine Pv.bin (z := ((((x - ((((x : Int32).toUInt32 >>> ((1 : Int32).toUInt32 &&& Int32.toUInt32 31)).toInt32) &&& 1431655765)) : Int32).toUInt32 >>> ((2 : Int32).toUInt32 &&& Int32.toUInt32 31)).toInt32) &&& 858993459) rfl (rfl) ?_
  refine Pv.bin (z := ((x - ((((x : Int32).toUInt32 >>> ((1 : Int32).toUInt32 &&& Int32.toUInt32 31)).toInt32) &&& 1431655765)) &&& 858993459) + (((((x - ((((x : Int32).toUInt32 >>> ((1 : Int32).toUInt32 &&& Int32.toUInt32 31)).toInt32) &&& 1431655765)) : Int32).toUInt32 >>> ((2 : Int32).toUInt32 &&& Int32.toUInt32 31)).toInt32) &&& 858993459)) rfl (rfl) ?_
  refine Pv.istore (lo' := [some (.int (((x - ((((x : Int32).toUInt32 >>> ((1 : Int32).toUInt32 &&& Int32.toUInt32 31)).toInt32) &&& 1431655765)) &&& 858993459) + (((((x - ((((x : Int32).toUInt32 >>> ((1 : Int32).toUInt32 &&& Int32.toUInt32 31)).toInt32) &&& 1431655765)) : Int32).toUInt32 >>> ((2 : Int32).toUInt32 &&& Int32.toUInt32 31)).toInt32) &&& 858993459)))]) rfl rfl ?_
  refine Pv.iload rfl rfl ?_
  refine Pv.iload rfl rfl ?_
  refine Pv.lit rfl ?_
  refine Pv.bin (z := (((((x - ((((x : Int32).toUInt32 >>> ((1 : Int32).toUInt32 &&& Int32.toUInt32 31)).toInt32) &&& 1431655765)) &&& 858993459) + (((((x - ((((x : Int32).toUInt32 >>> ((1 : Int32).toUInt32 &&& Int32.toUInt32 31)).toInt32) &&& 1431655765)) : Int32).toUInt32 >>> ((2 : Int32).toUInt32 &&& Int32.toUInt32 31)).toInt32) &&& 858993459)) : Int32).toUInt32 >>> ((4 : Int32).toUInt32 &&& Int32.toUInt32 31)).toInt32) rfl (rfl) ?_
  refine Pv.bin (z := (((x - ((((x : Int32).toUInt32 >>> ((1 : Int32).toUInt32 &&& Int32.toUInt32 31)).toInt32) &&& 1431655765)) &&& 858993459) + (((((x - ((((x : Int32).toUInt32 >>> ((1 : Int32).toUInt32 &&& Int32.toUInt32 31)).toInt32) &&& 1431655765)) : Int32).toUInt32 >>> ((2 : Int32).toUInt32 &&& Int32.toUInt32 31)).toInt32) &&& 858993459)) + ((((((x - ((((x : Int32).toUInt32 >>> ((1 : Int32).toUInt32 &&& Int32.toUInt32 31)).toInt32) &&& 1431655765)) &&& 858993459) + (((((x - ((((x : Int32).toUInt32 >>> ((1 : Int32).toUInt32 &&& Int32.toUInt32 31)).toInt32) &&& 1431655765)) : Int32).toUInt32 >>> ((2 : Int32).toUInt32 &&& Int32.toUInt32 31)).toInt32) &&& 858993459)) : Int32).toUInt32 >>> ((4 : Int32).toUInt32 &&& Int32.toUInt32 31)).toInt32)) rfl (rfl) ?_
  refine Pv.lit rfl ?_
  refine Pv.bin (z := ((((x - ((((x : Int32).toUInt32 >>> ((1 : Int32).toUInt32 &&& Int32.toUInt32 31)).toInt32) &&& 1431655765)) &&& 858993459) + (((((x - ((((x : Int32).toUInt32 >>> ((1 : Int32).toUInt32 &&& Int32.toUInt32 31)).toInt32) &&& 1431655765)) : Int32).toUInt32 >>> ((2 : Int32).toUInt32 &&& Int32.toUInt32 31)).toInt32) &&& 858993459)) + ((((((x - ((((x : Int32).toUInt32 >>> ((1 : Int32).toUInt32 &&& Int32.toUInt32 31)).toInt32) &&& 1431655765)) &&& 858993459) + (((((x - ((((x : Int32).toUInt32 >>> ((1 : Int32).toUInt32 &&& Int32.toUInt32 31)).toInt32) &&& 1431655765)) : Int32).toUInt32 >>> ((2 : Int32).toUInt32 &&& Int32.toUInt32 31)).toInt32) &&& 858993459)) : Int32).toUInt32 >>> ((4 : Int32).toUInt32 &&& Int32.toUInt32 31)).toInt32)) &&& 252645135) rfl (rfl) ?_
  refine Pv.istore (lo' := [some (.int (((((x - ((((x : Int32).toUInt32 >>> ((1 : Int32).toUInt32 &&& Int32.toUInt32 31)).toInt32) &&& 1431655765)) &&& 858993459) + (((((x - ((((x : Int32).toUInt32 >>> ((1 : Int32).toUInt32 &&& Int32.toUInt32 31)).toInt32) &&& 1431655765)) : Int32).toUInt32 >>> ((2 : Int32).toUInt32 &&& Int32.toUInt32 31)).toInt32) &&& 858993459)) + ((((((x - ((((x : Int32).toUInt32 >>> ((1 : Int32).toUInt32 &&& Int32.toUInt32 31)).toInt32) &&& 1431655765)) &&& 858993459) + (((((x - ((((x : Int32).toUInt32 >>> ((1 : Int32).toUInt32 &&& Int32.toUInt32 31)).toInt32) &&& 1431655765)) : Int32).toUInt32 >>> ((2 : Int32).toUInt32 &&& Int32.toUInt32 31)).toInt32) &&& 858993459)) : Int32).toUInt32 >>> ((4 : Int32).toUInt32 &&& Int32.toUInt32 31)).toInt32)) &&& 252645135))]) rfl rfl ?_
  refine Pv.iload rfl rfl ?_
  refine Pv.iload rfl rfl ?_
  refine Pv.lit rfl ?_
  refine Pv.bin (z := (((((((x - ((((x : Int32).toUInt32 >>> ((1 : Int32).toUInt32 &&& Int32.toUInt32 31)).toInt32) &&& 1431655765)) &&& 858993459) + (((((x - ((((x : Int32).toUInt32 >>> ((1 : Int32).toUInt32 &&& Int32.toUInt32 31)).toInt32) &&& 1431655765)) : Int32).toUInt32 >>> ((2 : Int32).toUInt32 &&& Int32.toUInt32 31)).toInt32) &&& 858993459)) + ((((((x - ((((x : Int32).toUInt32 >>> ((1 : Int32).toUInt32 &&& Int32.toUInt32 31)).toInt32) &&& 1431655765)) &&& 858993459) + (((((x - ((((x : Int32).toUInt32 >>> ((1 : Int32).toUInt32 &&& Int32.toUInt32 31)).toInt32) &&& 1431655765)) : Int32).toUInt32 >>> ((2 : Int32).toUInt32 &&& Int32.toUInt32 31)).toInt32) &&& 858993459)) : Int32).toUInt32 >>> ((4 : Int32).toUInt32 &&& Int32.toUInt32 31)).toInt32)) &&& 252645135) : Int32).toUInt32 >>> ((8 : Int32).toUInt32 &&& Int32.toUInt32 31)).toInt32) rfl (rfl) ?_
  refine Pv.bin (z := (((((x - ((((x : Int32).toUInt32 >>> ((1 : Int32).toUInt32 &&& Int32.toUInt32 31)).toInt32) &&& 1431655765)) &&& 858993459) + (((((x - ((((x : Int32).toUInt32 >>> ((1 : Int32).toUInt32 &&& Int32.toUInt32 31)).toInt32) &&& 1431655765)) : Int32).toUInt32 >>> ((2 : Int32).toUInt32 &&& Int32.toUInt32 31)).toInt32) &&& 858993459)) + ((((((x - ((((x : Int32).toUInt32 >>> ((1 : Int32).toUInt32 &&& Int32.toUInt32 31)).toInt32) &&& 1431655765)) &&& 858993459) + (((((x - ((((x : Int32).toUInt32 >>> ((1 : Int32).toUInt32 &&& Int32.toUInt32 31)).toInt32) &&& 1431655765)) : Int32).toUInt32 >>> ((2 : Int32).toUInt32 &&& Int32.toUInt32 31)).toInt32) &&& 858993459)) : Int32).toUInt32 >>> ((4 : Int32).toUInt32 &&& Int32.toUInt32 31)).toInt32)) &&& 252645135) + ((((((((x - ((((x : Int32).toUInt32 >>> ((1 : Int32).toUInt32 &&& Int32.toUInt32 31)).toInt32) &&& 1431655765)) &&& 858993459) + (((((x - ((((x : Int32).toUInt32 >>> ((1 : Int32).toUInt32 &&& Int32.toUInt32 31)).toInt32) &&& 1431655765)) : Int32).toUInt32 >>> ((2 : Int32).toUInt32 &&& Int32.toUInt32 31)).toInt32) &&& 858993459)) + ((((((x - ((((x : Int32).toUInt32 >>> ((1 : Int32).toUInt32 &&& Int32.toUInt32 31)).toInt32) &&& 1431655765)) &&& 858993459) + (((((x - ((((x : Int32).toUInt32 >>> ((1 : Int32).toUInt32 &&& Int32.toUInt32 31)).toInt32) &&& 1431655765)) : Int32).toUInt32 >>> ((2 : Int32).toUInt32 &&& Int32.toUInt32 31)).toInt32) &&& 858993459)) : Int32).toUInt32 >>> ((4 : Int32).toUInt32 &&& Int32.toUInt32 31)).toInt32)) &&& 252645135) : Int32).toUInt32 >>> ((8 : Int32).toUInt32 &&& Int32.toUInt32 31)).toInt32)) rfl (rfl) ?_
  refine Pv.istore (lo' := [some (.int ((((((x - ((((x : Int32).toUInt32 >>> ((1 : Int32).toUInt32 &&& Int32.toUInt32 31)).toInt32) &&& 1431655765)) &&& 858993459) + (((((x - ((((x : Int32).toUInt32 >>> ((1 : Int32).toUInt32 &&& Int32.toUInt32 31)).toInt32) &&& 1431655765)) : Int32).toUInt32 >>> ((2 : Int32).toUInt32 &&& Int32.toUInt32 31)).toInt32) &&& 858993459)) + ((((((x - ((((x : Int32).toUInt32 >>> ((1 : Int32).toUInt32 &&& Int32.toUInt32 31)).toInt32) &&& 1431655765)) &&& 858993459) + (((((x - ((((x : Int32).toUInt32 >>> ((1 : Int32).toUInt32 &&& Int32.toUInt32 31)).toInt32) &&& 1431655765)) : Int32).toUInt32 >>> ((2 : Int32).toUInt32 &&& Int32.toUInt32 31)).toInt32) &&& 858993459)) : Int32).toUInt32 >>> ((4 : Int32).toUInt32 &&& Int32.toUInt32 31)).toInt32)) &&& 252645135) + ((((((((x - ((((x : Int32).toUInt32 >>> ((1 : Int32).toUInt32 &&& Int32.toUInt32 31)).toInt32) &&& 1431655765)) &&& 858993459) + (((((x - ((((x : Int32).toUInt32 >>> ((1 : Int32).toUInt32 &&& Int32.toUInt32 31)).toInt32) &&& 1431655765)) : Int32).toUInt32 >>> ((2 : Int32).toUInt32 &&& Int32.toUInt32 31)).toInt32) &&& 858993459)) + ((((((x - ((((x : Int32).toUInt32 >>> ((1 : Int32).toUInt32 &&& Int32.toUInt32 31)).toInt32) &&& 1431655765)) &&& 858993459) + (((((x - ((((x : Int32).toUInt32 >>> ((1 : Int32).toUInt32 &&& Int32.toUInt32 31)).toInt32) &&& 1431655765)) : Int32).toUInt32 >>> ((2 : Int32).toUInt32 &&& Int32.toUInt32 31)).toInt32) &&& 858993459)) : Int32).toUInt32 >>> ((4 : Int32).toUInt32 &&& Int32.toUInt32 31)).toInt32)) &&& 252645135) : Int32).toUInt32 >>> ((8 : Int32).toUInt32 &&& Int32.toUInt32 31)).toInt32)))]) rfl rfl ?_
  refine Pv.iload rfl rfl ?_
  refine Pv.iload rfl rfl ?_
  refine Pv.lit rfl ?_
  refine Pv.bin (z := ((((((((x - ((((x : Int32).toUInt32 >>> ((1 : Int32).toUInt32 &&& Int32.toUInt32 31)).toInt32) &&& 1431655765)) &&& 858993459) + (((((x - ((((x : Int32).toUInt32 >>> ((1 : Int32).toUInt32 &&& Int32.toUInt32 31)).toInt32) &&& 1431655765)) : Int32).toUInt32 >>> ((2 : Int32).toUInt32 &&& Int32.toUInt32 31)).toInt32) &&& 858993459)) + ((((((x - ((((x : Int32).toUInt32 >>> ((1 : Int32).toUInt32 &&& Int32.toUInt32 31)).toInt32) &&& 1431655765)) &&& 858993459) + (((((x - ((((x : Int32).toUInt32 >>> ((1 : Int32).toUInt32 &&& Int32.toUInt32 31)).toInt32) &&& 1431655765)) : Int32).toUInt32 >>> ((2 : Int32).toUInt32 &&& Int32.toUInt32 31)).toInt32) &&& 858993459)) : Int32).toUInt32 >>> ((4 : Int32).toUInt32 &&& Int32.toUInt32 31)).toInt32)) &&& 252645135) + ((((((((x - ((((x : Int32).toUInt32 >>> ((1 : Int32).toUInt32 &&& Int32.toUInt32 31)).toInt32) &&& 1431655765)) &&& 858993459) + (((((x - ((((x : Int32).toUInt32 >>> ((1 : Int32).toUInt32 &&& Int32.toUInt32 31)).toInt32) &&& 1431655765)) : Int32).toUInt32 >>> ((2 : Int32).toUInt32 &&& Int32.toUInt32 31)).toInt32) &&& 858993459)) + ((((((x - ((((x : Int32).toUInt32 >>> ((1 : Int32).toUInt32 &&& Int32.toUInt32 31)).toInt32) &&& 1431655765)) &&& 858993459) + (((((x - ((((x : Int32).toUInt32 >>> ((1 : Int32).toUInt32 &&& Int32.toUInt32 31)).toInt32) &&& 1431655765)) : Int32).toUInt32 >>> ((2 : Int32).toUInt32 &&& Int32.toUInt32 31)).toInt32) &&& 858993459)) : Int32).toUInt32 >>> ((4 : Int32).toUInt32 &&& Int32.toUInt32 31)).toInt32)) &&& 252645135) : Int32).toUInt32 >>> ((8 : Int32).toUInt32 &&& Int32.toUInt32 31)).toInt32)) : Int32).toUInt32 >>> ((16 : Int32).toUInt32 &&& Int32.toUInt32 31)).toInt32) rfl (rfl) ?_
  refine Pv.bin (z := ((((((x - ((((x : Int32).toUInt32 >>> ((1 : Int32).toUInt32 &&& Int32.toUInt32 31)).toInt32) &&& 1431655765)) &&& 858993459) + (((((x - ((((x : Int32).toUInt32 >>> ((1 : Int32).toUInt32 &&& Int32.toUInt32 31)).toInt32) &&& 1431655765)) : Int32).toUInt32 >>> ((2 : Int32).toUInt32 &&& Int32.toUInt32 31)).toInt32) &&& 858993459)) + ((((((x - ((((x : Int32).toUInt32 >>> ((1 : Int32).toUInt32 &&& Int32.toUInt32 31)).toInt32) &&& 1431655765)) &&& 858993459) + (((((x - ((((x : Int32).toUInt32 >>> ((1 : Int32).toUInt32 &&& Int32.toUInt32 31)).toInt32) &&& 1431655765)) : Int32).toUInt32 >>> ((2 : Int32).toUInt32 &&& Int32.toUInt32 31)).toInt32) &&& 858993459)) : Int32).toUInt32 >>> ((4 : Int32).toUInt32 &&& Int32.toUInt32 31)).toInt32)) &&& 252645135) + ((((((((x - ((((x : Int32).toUInt32 >>> ((1 : Int32).toUInt32 &&& Int32.toUInt32 31)).toInt32) &&& 1431655765)) &&& 858993459) + (((((x - ((((x : Int32).toUInt32 >>> ((1 : Int32).toUInt32 &&& Int32.toUInt32 31)).toInt32) &&& 1431655765)) : Int32).toUInt32 >>> ((2 : Int32).toUInt32 &&& Int32.toUInt32 31)).toInt32) &&& 858993459)) + ((((((x - ((((x : Int32).toUInt32 >>> ((1 : Int32).toUInt32 &&& Int32.toUInt32 31)).toInt32) &&& 1431655765)) &&& 858993459) + (((((x - ((((x : Int32).toUInt32 >>> ((1 : Int32).toUInt32 &&& Int32.toUInt32 31)).toInt32) &&& 1431655765)) : Int32).toUInt32 >>> ((2 : Int32).toUInt32 &&& Int32.toUInt32 31)).toInt32) &&& 858993459)) : Int32).toUInt32 >>> ((4 : Int32).toUInt32 &&& Int32.toUInt32 31)).toInt32)) &&& 252645135) : Int32).toUInt32 >>> ((8 : Int32).toUInt32 &&& Int32.toUInt32 31)).toInt32)) + (((((((((x - ((((x : Int32).toUInt32 >>> ((1 : Int32).toUInt32 &&& Int32.toUInt32 31)).toInt32) &&& 1431655765)) &&& 858993459) + (((((x - ((((x : Int32).toUInt32 >>> ((1 : Int32).toUInt32 &&& Int32.toUInt32 31)).toInt32) &&& 1431655765)) : Int32).toUInt32 >>> ((2 : Int32).toUInt32 &&& Int32.toUInt32 31)).toInt32) &&& 858993459)) + ((((((x - ((((x : Int32).toUInt32 >>> ((1 : Int32).toUInt32 &&& Int32.toUInt32 31)).toInt32) &&& 1431655765)) &&& 858993459) + (((((x - ((((x : Int32).toUInt32 >>> ((1 : Int32).toUInt32 &&& Int32.toUInt32 31)).toInt32) &&& 1431655765)) : Int32).toUInt32 >>> ((2 : Int32).toUInt32 &&& Int32.toUInt32 31)).toInt32) &&& 858993459)) : Int32).toUInt32 >>> ((4 : Int32).toUInt32 &&& Int32.toUInt32 31)).toInt32)) &&& 252645135) + ((((((((x - ((((x : Int32).toUInt32 >>> ((1 : Int32).toUInt32 &&& Int32.toUInt32 31)).toInt32) &&& 1431655765)) &&& 858993459) + (((((x - ((((x : Int32).toUInt32 >>> ((1 : Int32).toUInt32 &&& Int32.toUInt32 31)).toInt32) &&& 1431655765)) : Int32).toUInt32 >>> ((2 : Int32).toUInt32 &&& Int32.toUInt32 31)).toInt32) &&& 858993459)) + ((((((x - ((((x : Int32).toUInt32 >>> ((1 : Int32).toUInt32 &&& Int32.toUInt32 31)).toInt32) &&& 1431655765)) &&& 858993459) + (((((x - ((((x : Int32).toUInt32 >>> ((1 : Int32).toUInt32 &&& Int32.toUInt32 31)).toInt32) &&& 1431655765)) : Int32).toUInt32 >>> ((2 : Int32).toUInt32 &&& Int32.toUInt32 31)).toInt32) &&& 858993459)) : Int32).toUInt32 >>> ((4 : Int32).toUInt32 &&& Int32.toUInt32 31)).toInt32)) &&& 252645135) : Int32).toUInt32 >>> ((8 : Int32).toUInt32 &&& Int32.toUInt32 31)).toInt32)) : Int32).toUInt32 >>> ((16 : Int32).toUInt32 &&& Int32.toUInt32 31)).toInt32)) rfl (rfl) ?_
  refine Pv.istore (lo' := [some (.int (((((((x - ((((x : Int32).toUInt32 >>> ((1 : Int32).toUInt32 &&& Int32.toUInt32 31)).toInt32) &&& 1431655765)) &&& 858993459) + (((((x - ((((x : Int32).toUInt32 >>> ((1 : Int32).toUInt32 &&& Int32.toUInt32 31)).toInt32) &&& 1431655765)) : Int32).toUInt32 >>> ((2 : Int32).toUInt32 &&& Int32.toUInt32 31)).toInt32) &&& 858993459)) + ((((((x - ((((x : Int32).toUInt32 >>> ((1 : Int32).toUInt32 &&& Int32.toUInt32 31)).toInt32) &&& 1431655765)) &&& 858993459) + (((((x - ((((x : Int32).toUInt32 >>> ((1 : Int32).toUInt32 &&& Int32.toUInt32 31)).toInt32) &&& 1431655765)) : Int32).toUInt32 >>> ((2 : Int32).toUInt32 &&& Int32.toUInt32 31)).toInt32) &&& 858993459)) : Int32).toUInt32 >>> ((4 : Int32).toUInt32 &&& Int32.toUInt32 31)).toInt32)) &&& 252645135) + ((((((((x - ((((x : Int32).toUInt32 >>> ((1 : Int32).toUInt32 &&& Int32.toUInt32 31)).toInt32) &&& 1431655765)) &&& 858993459) + (((((x - ((((x : Int32).toUInt32 >>> ((1 : Int32).toUInt32 &&& Int32.toUInt32 31)).toInt32) &&& 1431655765)) : Int32).toUInt32 >>> ((2 : Int32).toUInt32 &&& Int32.toUInt32 31)).toInt32) &&& 858993459)) + ((((((x - ((((x : Int32).toUInt32 >>> ((1 : Int32).toUInt32 &&& Int32.toUInt32 31)).toInt32) &&& 1431655765)) &&& 858993459) + (((((x - ((((x : Int32).toUInt32 >>> ((1 : Int32).toUInt32 &&& Int32.toUInt32 31)).toInt32) &&& 1431655765)) : Int32).toUInt32 >>> ((2 : Int32).toUInt32 &&& Int32.toUInt32 31)).toInt32) &&& 858993459)) : Int32).toUInt32 >>> ((4 : Int32).toUInt32 &&& Int32.toUInt32 31)).toInt32)) &&& 252645135) : Int32).toUInt32 >>> ((8 : Int32).toUInt32 &&& Int32.toUInt32 31)).toInt32)) + (((((((((x - ((((x : Int32).toUInt32 >>> ((1 : Int32).toUInt32 &&& Int32.toUInt32 31)).toInt32) &&& 1431655765)) &&& 858993459) + (((((x - ((((x : Int32).toUInt32 >>> ((1 : Int32).toUInt32 &&& Int32.toUInt32 31)).toInt32) &&& 1431655765)) : Int32).toUInt32 >>> ((2 : Int32).toUInt32 &&& Int32.toUInt32 31)).toInt32) &&& 858993459)) + ((((((x - ((((x : Int32).toUInt32 >>> ((1 : Int32).toUInt32 &&& Int32.toUInt32 31)).toInt32) &&& 1431655765)) &&& 858993459) + (((((x - ((((x : Int32).toUInt32 >>> ((1 : Int32).toUInt32 &&& Int32.toUInt32 31)).toInt32) &&& 1431655765)) : Int32).toUInt32 >>> ((2 : Int32).toUInt32 &&& Int32.toUInt32 31)).toInt32) &&& 858993459)) : Int32).toUInt32 >>> ((4 : Int32).toUInt32 &&& Int32.toUInt32 31)).toInt32)) &&& 252645135) + ((((((((x - ((((x : Int32).toUInt32 >>> ((1 : Int32).toUInt32 &&& Int32.toUInt32 31)).toInt32) &&& 1431655765)) &&& 858993459) + (((((x - ((((x : Int32).toUInt32 >>> ((1 : Int32).toUInt32 &&& Int32.toUInt32 31)).toInt32) &&& 1431655765)) : Int32).toUInt32 >>> ((2 : Int32).toUInt32 &&& Int32.toUInt32 31)).toInt32) &&& 858993459)) + ((((((x - ((((x : Int32).toUInt32 >>> ((1 : Int32).toUInt32 &&& Int32.toUInt32 31)).toInt32) &&& 1431655765)) &&& 858993459) + (((((x - ((((x : Int32).toUInt32 >>> ((1 : Int32).toUInt32 &&& Int32.toUInt32 31)).toInt32) &&& 1431655765)) : Int32).toUInt32 >>> ((2 : Int32).toUInt32 &&& Int32.toUInt32 31)).toInt32) &&& 858993459)) : Int32).toUInt32 >>> ((4 : Int32).toUInt32 &&& Int32.toUInt32 31)).toInt32)) &&& 252645135) : Int32).toUInt32 >>> ((8 : Int32).toUInt32 &&& Int32.toUInt32 31)).toInt32)) : Int32).toUInt32 >>> ((16 : Int32).toUInt32 &&& Int32.toUInt32 31)).toInt32)))]) rfl rfl ?_
  refine Pv.iload rfl rfl ?_
  refine Pv.lit rfl ?_
  refine Pv.bin (z := (((((((x - ((((x : Int32).toUInt32 >>> ((1 : Int32).toUInt32 &&& Int32.toUInt32 31)).toInt32) &&& 1431655765)) &&& 858993459) + (((((x - ((((x : Int32).toUInt32 >>> ((1 : Int32).toUInt32 &&& Int32.toUInt32 31)).toInt32) &&& 1431655765)) : Int32).toUInt32 >>> ((2 : Int32).toUInt32 &&& Int32.toUInt32 31)).toInt32) &&& 858993459)) + ((((((x - ((((x : Int32).toUInt32 >>> ((1 : Int32).toUInt32 &&& Int32.toUInt32 31)).toInt32) &&& 1431655765)) &&& 858993459) + (((((x - ((((x : Int32).toUInt32 >>> ((1 : Int32).toUInt32 &&& Int32.toUInt32 31)).toInt32) &&& 1431655765)) : Int32).toUInt32 >>> ((2 : Int32).toUInt32 &&& Int32.toUInt32 31)).toInt32) &&& 858993459)) : Int32).toUInt32 >>> ((4 : Int32).toUInt32 &&& Int32.toUInt32 31)).toInt32)) &&& 252645135) + ((((((((x - ((((x : Int32).toUInt32 >>> ((1 : Int32).toUInt32 &&& Int32.toUInt32 31)).toInt32) &&& 1431655765)) &&& 858993459) + (((((x - ((((x : Int32).toUInt32 >>> ((1 : Int32).toUInt32 &&& Int32.toUInt32 31)).toInt32) &&& 1431655765)) : Int32).toUInt32 >>> ((2 : Int32).toUInt32 &&& Int32.toUInt32 31)).toInt32) &&& 858993459)) + ((((((x - ((((x : Int32).toUInt32 >>> ((1 : Int32).toUInt32 &&& Int32.toUInt32 31)).toInt32) &&& 1431655765)) &&& 858993459) + (((((x - ((((x : Int32).toUInt32 >>> ((1 : Int32).toUInt32 &&& Int32.toUInt32 31)).toInt32) &&& 1431655765)) : Int32).toUInt32 >>> ((2 : Int32).toUInt32 &&& Int32.toUInt32 31)).toInt32) &&& 858993459)) : Int32).toUInt32 >>> ((4 : Int32).toUInt32 &&& Int32.toUInt32 31)).toInt32)) &&& 252645135) : Int32).toUInt32 >>> ((8 : Int32).toUInt32 &&& Int32.toUInt32 31)).toInt32)) + (((((((((x - ((((x : Int32).toUInt32 >>> ((1 : Int32).toUInt32 &&& Int32.toUInt32 31)).toInt32) &&& 1431655765)) &&& 858993459) + (((((x - ((((x : Int32).toUInt32 >>> ((1 : Int32).toUInt32 &&& Int32.toUInt32 31)).toInt32) &&& 1431655765)) : Int32).toUInt32 >>> ((2 : Int32).toUInt32 &&& Int32.toUInt32 31)).toInt32) &&& 858993459)) + ((((((x - ((((x : Int32).toUInt32 >>> ((1 : Int32).toUInt32 &&& Int32.toUInt32 31)).toInt32) &&& 1431655765)) &&& 858993459) + (((((x - ((((x : Int32).toUInt32 >>> ((1 : Int32).toUInt32 &&& Int32.toUInt32 31)).toInt32) &&& 1431655765)) : Int32).toUInt32 >>> ((2 : Int32).toUInt32 &&& Int32.toUInt32 31)).toInt32) &&& 858993459)) : Int32).toUInt32 >>> ((4 : Int32).toUInt32 &&& Int32.toUInt32 31)).toInt32)) &&& 252645135) + ((((((((x - ((((x : Int32).toUInt32 >>> ((1 : Int32).toUInt32 &&& Int32.toUInt32 31)).toInt32) &&& 1431655765)) &&& 858993459) + (((((x - ((((x : Int32).toUInt32 >>> ((1 : Int32).toUInt32 &&& Int32.toUInt32 31)).toInt32) &&& 1431655765)) : Int32).toUInt32 >>> ((2 : Int32).toUInt32 &&& Int32.toUInt32 31)).toInt32) &&& 858993459)) + ((((((x - ((((x : Int32).toUInt32 >>> ((1 : Int32).toUInt32 &&& Int32.toUInt32 31)).toInt32) &&& 1431655765)) &&& 858993459) + (((((x - ((((x : Int32).toUInt32 >>> ((1 : Int32).toUInt32 &&& Int32.toUInt32 31)).toInt32) &&& 1431655765)) : Int32).toUInt32 >>> ((2 : Int32).toUInt32 &&& Int32.toUInt32 31)).toInt32) &&& 858993459)) : Int32).toUInt32 >>> ((4 : Int32).toUInt32 &&& Int32.toUInt32 31)).toInt32)) &&& 252645135) : Int32).toUInt32 >>> ((8 : Int32).toUInt32 &&& Int32.toUInt32 31)).toInt32)) : Int32).toUInt32 >>> ((16 : Int32).toUInt32 &&& Int32.toUInt32 31)).toInt32)) &&& 63) rfl (rfl) ?_
  exact Pv.ret rfl (by rw [hQ]; exact ⟨rfl, rfl⟩)
set_option maxRecDepth 100000 in
set_option maxHeartbeats 4000000 in
theorem o_dearest {F : FW} {t : Nat} {T : St} {S : Sh} (hG : GW F) (ht : F.2.1 0 13 = .ref t) (hT : TR F t T) (hS : SHR F 12 (t_m T) S) (j0 : t = 45 ∨ t = 53) : Pm Z_X10_dearest [.ref 0] F (fun r F' => r = some (.int (a_dearest T S)) ∧ F' = F) := by
  refine Pm.of fun N => ?_
  obtain ⟨Q, hQ⟩ : ∃ Q : Option Value → FW → Prop, Q = (fun r F' => r = some (.int (a_dearest T S)) ∧ F' = F) := ⟨_, rfl⟩
  rw [← hQ]
  have b3 := hT.mb
  have b4 := hT.nb
  have b5 := hT.gb
  have b6 := m_from_lt S
  have b7 := hS.db
  refine (show Pv (ab_T (L_X10_dearest Z_X6_missersOf Z_J6_bitCount_0f7a4)) N 0 [some (.ref 0), none, none, none, none] [] F Q from ?_)
  refine Pv.lit rfl ?_
  refine Pv.istore (lo' := [some (.ref 0), some (.int 0), none, none, none]) rfl rfl ?_
  refine Pv.lit rfl ?_
  refine Pv.istore (lo' := [some (.ref 0), some (.int 0), some (.int (-1)), none, none]) rfl rfl ?_
  refine Pv.lit rfl ?_
  refine Pv.istore (lo' := [some (.ref 0), some (.int 0), some (.int (-1)), some (.int 0), none]) rfl rfl ?_
  refine Pv.lp (ι := Nat × Int32 × Int32 × (Option Value)) (lof := fun ⟨k, b, e, o1⟩ => [some (.ref 0), some (.int b), some (.int e), some (.int (Int32.ofNat k)), o1]) (Ff := fun ⟨k, b, e, o1⟩ => F) (P := fun ⟨k, b, e, o1⟩ => k ≤ t_m T ∧ (b, e) = m_top (fun m => jbc (m_missers T S m)) k) ?_ (0, 0, (-1), none) (⟨Nat.zero_le _, rfl⟩)
  rintro N2 hN3 ⟨k, b, e, o1⟩ hi4 ih5
  refine (show Pv _ _ 6 [some (.ref 0), some (.int b), some (.int e), some (.int (Int32.ofNat k)), o1] [] F Q from ?_)
  obtain ⟨hk, hb⟩ := hi4
  refine Pv.iloadS rfl rfl ?_
  refine Pv.aload rfl rfl ?_
  refine Pv.getR (v := .ref t) rfl rfl (ht) ?_
  refine Pv.getI (z := Int32.ofNat (t_m T)) rfl rfl (hT.m) ?_
  refine Pv.icmp rfl (fun c6 => ?_) (fun c6 => ?_)
  · skip
    replace c6 := (i_le (a := t_m T) (b := k) (by omega) (by omega)).mp (of_decide_eq_true c6)
    refine Pv.iload rfl rfl ?_
    exact Pv.ret rfl (by rw [hQ]; exact ⟨by unfold a_dearest; rw [show t_m T = k by omega, ← hb], rfl⟩)
  · skip
    replace c6 := mt (i_le (a := t_m T) (b := k) (by omega) (by omega)).mpr (of_decide_eq_false c6)
    refine Pv.aload rfl rfl ?_
    refine Pv.getR (v := .ref 12) rfl rfl (GW.at (a := 0) (k := 4) (b := 12) hG (by decide)) ?_
    refine Pv.aload rfl rfl ?_
    refine Pv.getR (v := .ref t) rfl rfl (ht) ?_
    refine Pv.iload rfl rfl ?_
    refine Pv.callVI (as := [.ref 12, .ref t, .int (Int32.ofNat k)]) (rest := []) (z := m_missers T S k) rfl rfl rfl (f_missersOf (m := k) hT hS (by omega)) ?_
    refine Pv.callI (as := [.int (m_missers T S k)]) (rest := []) (z := jbc (m_missers T S k)) rfl rfl rfl (f_bitCount (m_missers T S k)) ?_
    refine Pv.istore (lo' := [some (.ref 0), some (.int b), some (.int e), some (.int (Int32.ofNat k)), some (.int (jbc (m_missers T S k)))]) rfl rfl ?_
    refine Pv.iload rfl rfl ?_
    refine Pv.iload rfl rfl ?_
    refine Pv.icmp rfl (fun c7 => ?_) (fun c7 => ?_)
    · skip
      replace c7 := of_decide_eq_true c7
      refine Pv.iinc (y := Int32.ofNat (k + 1)) (lo' := [some (.ref 0), some (.int b), some (.int e), some (.int (Int32.ofNat (k + 1))), some (.int (jbc (m_missers T S k)))]) rfl rfl (i_add k 1) rfl ?_
      refine Pv.goto rfl ?_
      exact ih5 (k + 1, b, e, (some (.int (jbc (m_missers T S k))))) (⟨by omega, by show _ = (if _ then _ else _ : Int32 × Int32); rw [if_pos (by rw [← hb]; exact c7)]; exact hb⟩)
    · skip
      replace c7 := of_decide_eq_false c7
      refine Pv.iload rfl rfl ?_
      refine Pv.istore (lo' := [some (.ref 0), some (.int (jbc (m_missers T S k))), some (.int e), some (.int (Int32.ofNat k)), some (.int (jbc (m_missers T S k)))]) rfl rfl ?_
      refine Pv.iload rfl rfl ?_
      refine Pv.istore (lo' := [some (.ref 0), some (.int (jbc (m_missers T S k))), some (.int (Int32.ofNat k)), some (.int (Int32.ofNat k)), some (.int (jbc (m_missers T S k)))]) rfl rfl ?_
      refine Pv.iinc (y := Int32.ofNat (k + 1)) (lo' := [some (.ref 0), some (.int (jbc (m_missers T S k))), some (.int (Int32.ofNat k)), some (.int (Int32.ofNat (k + 1))), some (.int (jbc (m_missers T S k)))]) rfl rfl (i_add k 1) rfl ?_
      refine Pv.goto rfl ?_
      exact ih5 (k + 1, jbc (m_missers T S k), Int32.ofNat k, (some (.int (jbc (m_missers T S k))))) (⟨by omega, by show _ = (if _ then _ else _ : Int32 × Int32); rw [if_neg (by rw [← hb]; exact c7)]⟩)
set_option maxRecDepth 100000 in
set_option maxHeartbeats 4000000 in
theorem o_rats {F : FW} {t : Nat} {T : St} {S : Sh} (hG : GW F) (ht : F.2.1 0 13 = .ref t) (hT : TR F t T) (hS : SHR F 12 (t_m T) S) (j0 : t = 45 ∨ t = 53) : Pm Z_X10_rats [.ref 0] F (fun r F' => r = some (.int (a_rats T S)) ∧ F' = F) := by
  refine Pm.of fun N => ?_
  obtain ⟨Q, hQ⟩ : ∃ Q : Option Value → FW → Prop, Q = (fun r F' => r = some (.int (a_rats T S)) ∧ F' = F) := ⟨_, rfl⟩
  rw [← hQ]
  have b3 := hT.mb
  have b4 := hT.nb
  have b5 := hT.gb
  have b6 := m_from_lt S
  have b7 := hS.db
  refine (show Pv (ab_T (L_X10_rats Z_X6_isAlive Z_X6_couldBeMissed)) N 0 [some (.ref 0), none, none] [] F Q from ?_)
  refine Pv.lit rfl ?_
  refine Pv.istore (lo' := [some (.ref 0), some (.int 0), none]) rfl rfl ?_
  refine Pv.lit rfl ?_
  refine Pv.istore (lo' := [some (.ref 0), some (.int 0), some (.int 0)]) rfl rfl ?_
  refine Pv.lp (ι := Nat × Int32) (lof := fun ⟨k, b⟩ => [some (.ref 0), some (.int b), some (.int (Int32.ofNat k))]) (Ff := fun ⟨k, b⟩ => F) (P := fun ⟨k, b⟩ => k ≤ t_m T ∧ b = m_bits (fun m => m_alive S m && !m_could T S m (t_n T)) id k) ?_ (0, 0) (⟨Nat.zero_le _, rfl⟩)
  rintro N1 hN2 ⟨k, b⟩ hi3 ih4
  refine (show Pv _ _ 4 [some (.ref 0), some (.int b), some (.int (Int32.ofNat k))] [] F Q from ?_)
  obtain ⟨hk, hb⟩ := hi3
  refine Pv.iloadS rfl rfl ?_
  refine Pv.aload rfl rfl ?_
  refine Pv.getR (v := .ref t) rfl rfl (ht) ?_
  refine Pv.getI (z := Int32.ofNat (t_m T)) rfl rfl (hT.m) ?_
  refine Pv.icmp rfl (fun c5 => ?_) (fun c5 => ?_)
  · skip
    replace c5 := (i_le (a := t_m T) (b := k) (by omega) (by omega)).mp (of_decide_eq_true c5)
    refine Pv.iload rfl rfl ?_
    exact Pv.ret rfl (by rw [hQ]; exact ⟨by unfold a_rats; rw [hb, show k = t_m T by omega], rfl⟩)
  · skip
    replace c5 := mt (i_le (a := t_m T) (b := k) (by omega) (by omega)).mpr (of_decide_eq_false c5)
    refine Pv.aload rfl rfl ?_
    refine Pv.getR (v := .ref 12) rfl rfl (GW.at (a := 0) (k := 4) (b := 12) hG (by decide)) ?_
    refine Pv.iload rfl rfl ?_
    refine Pv.callVI (as := [.ref 12, .int (Int32.ofNat k)]) (rest := []) (z := b2i (m_alive S k)) rfl rfl rfl (f_isAlive (m := k) hS (by omega) (by omega)) ?_
    refine Pv.if0 rfl (fun c6 => ?_) (fun c6 => ?_)
    · skip
      replace c6 := of_decide_eq_true c6
      replace c6 := b2z.mp c6
      refine Pv.iinc (y := Int32.ofNat (k + 1)) (lo' := [some (.ref 0), some (.int b), some (.int (Int32.ofNat (k + 1)))]) rfl rfl (i_add k 1) rfl ?_
      refine Pv.goto rfl ?_
      exact ih4 (k + 1, b) (⟨by omega, hb.trans (m_bits_f (by simp [c5, c6])).symm⟩)
    · skip
      replace c6 := of_decide_eq_false c6
      replace c6 := b2n.mp c6
      refine Pv.aload rfl rfl ?_
      refine Pv.getR (v := .ref 12) rfl rfl (GW.at (a := 0) (k := 4) (b := 12) hG (by decide)) ?_
      refine Pv.aload rfl rfl ?_
      refine Pv.getR (v := .ref t) rfl rfl (ht) ?_
      refine Pv.iload rfl rfl ?_
      refine Pv.callVI (as := [.ref 12, .ref t, .int (Int32.ofNat k)]) (rest := []) (z := b2i (m_could T S k (t_n T))) rfl rfl rfl (f_couldBeMissed (m := k) hT hS (by omega)) ?_
      refine Pv.if0 rfl (fun c7 => ?_) (fun c7 => ?_)
      · skip
        replace c7 : decide (b2i (m_could T S k (t_n T)) = 0) = false := by simpa using c7
        replace c7 := of_decide_eq_false c7
        replace c7 := b2n.mp c7
        refine Pv.iinc (y := Int32.ofNat (k + 1)) (lo' := [some (.ref 0), some (.int b), some (.int (Int32.ofNat (k + 1)))]) rfl rfl (i_add k 1) rfl ?_
        refine Pv.goto rfl ?_
        exact ih4 (k + 1, b) (⟨by omega, hb.trans (m_bits_f (by simp [c5, c6, c7])).symm⟩)
      · skip
        replace c7 : decide (b2i (m_could T S k (t_n T)) = 0) = true := by simpa using c7
        replace c7 := of_decide_eq_true c7
        replace c7 := b2z.mp c7
        refine Pv.iload rfl rfl ?_
        refine Pv.lit rfl ?_
        refine Pv.iload rfl rfl ?_
        refine Pv.bin (z := 1 <<< ((Int32.ofNat k) &&& 31)) rfl (rfl) ?_
        refine Pv.bin (z := b ||| (1 <<< ((Int32.ofNat k) &&& 31))) rfl (rfl) ?_
        refine Pv.istore (lo' := [some (.ref 0), some (.int (b ||| (1 <<< ((Int32.ofNat k) &&& 31)))), some (.int (Int32.ofNat k))]) rfl rfl ?_
        refine Pv.iinc (y := Int32.ofNat (k + 1)) (lo' := [some (.ref 0), some (.int (b ||| (1 <<< ((Int32.ofNat k) &&& 31)))), some (.int (Int32.ofNat (k + 1)))]) rfl rfl (i_add k 1) rfl ?_
        refine Pv.goto rfl ?_
        exact ih4 (k + 1, b ||| (1 <<< ((Int32.ofNat k) &&& 31))) (⟨by omega, by rw [m_bits_t (f := (fun m => m_alive S m && !m_could T S m (t_n T))) (g := id) (k := k) (by simp [c5, c6, c7]), hb]; try rfl⟩)
set_option maxRecDepth 100000 in
set_option maxHeartbeats 4000000 in
theorem o_areLivingTwo {F : FW} {t : Nat} {T : St} {S : Sh} (hG : GW F) (ht : F.2.1 0 13 = .ref t) (hT : TR F t T) (hS : SHR F 12 (t_m T) S) (j0 : t = 45 ∨ t = 53) (x y : Int32) : Pm Z_X10_areLivingTwo [.ref 0, .int x, .int y] F (fun r F' => r = some (.int (b2i (liv2 T S x y).isSome)) ∧ F' = F) := by
  refine Pm.of fun N => ?_
  obtain ⟨Q, hQ⟩ : ∃ Q : Option Value → FW → Prop, Q = (fun r F' => r = some (.int (b2i (liv2 T S x y).isSome)) ∧ F' = F) := ⟨_, rfl⟩
  rw [← hQ]
  have b3 := hT.mb
  have b4 := hT.nb
  have b5 := hT.gb
  have b6 := m_from_lt S
  have b7 := hS.db
  refine (show Pv (ab_T (L_X10_areLivingTwo Z_X10_isMan Z_X6_isAlive)) N 0 [some (.ref 0), some (.int x), some (.int y)] [] F Q from ?_)
  refine Pv.aload rfl rfl ?_
  refine Pv.iload rfl rfl ?_
  refine Pv.callVI (as := [.ref 0, .int x]) (rest := []) (z := b2i (nd (t_m T) x).isSome) rfl rfl rfl (o_isMan hG ht hT hS j0 x) ?_
  refine Pv.if0 rfl (fun c1 => ?_) (fun c1 => ?_)
  · skip
    replace c1 := of_decide_eq_true c1
    replace c1 := b2z.mp c1
    refine Pv.lit rfl ?_
    exact Pv.zret rfl (by rw [hQ]; exact ⟨b2_f (by unfold liv2; rw [nd_f c1]; rfl), rfl⟩)
  · skip
    replace c1 := of_decide_eq_false c1
    replace c1 := b2n.mp c1
    obtain ⟨m, hm, hml, rfl⟩ := nd_t c1
    refine Pv.aload rfl rfl ?_
    refine Pv.iload rfl rfl ?_
    refine Pv.callVI (as := [.ref 0, .int y]) (rest := []) (z := b2i (nd (t_m T) y).isSome) rfl rfl rfl (o_isMan hG ht hT hS j0 y) ?_
    refine Pv.if0 rfl (fun c2 => ?_) (fun c2 => ?_)
    · skip
      replace c2 := of_decide_eq_true c2
      replace c2 := b2z.mp c2
      refine Pv.lit rfl ?_
      exact Pv.zret rfl (by rw [hQ]; exact ⟨b2_f (by unfold liv2; rw [hm]; dsimp only; rw [nd_f c2]; rfl), rfl⟩)
    · skip
      replace c2 := of_decide_eq_false c2
      replace c2 := b2n.mp c2
      obtain ⟨o, ho, hol, rfl⟩ := nd_t c2
      refine Pv.iload rfl rfl ?_
      refine Pv.iload rfl rfl ?_
      refine Pv.icmp rfl (fun c3 => ?_) (fun c3 => ?_)
      · skip
        replace c3 := (i_eq (a := m) (b := o) (by omega) (by omega)).mp (of_decide_eq_true c3)
        refine Pv.lit rfl ?_
        exact Pv.zret rfl (by rw [hQ]; exact ⟨b2_f (by unfold liv2; rw [hm]; dsimp only; rw [ho]; dsimp only; rw [if_neg (by simp [c3])]; rfl), rfl⟩)
      · skip
        replace c3 := mt (i_eq (a := m) (b := o) (by omega) (by omega)).mpr (of_decide_eq_false c3)
        refine Pv.aload rfl rfl ?_
        refine Pv.getR (v := .ref 12) rfl rfl (GW.at (a := 0) (k := 4) (b := 12) hG (by decide)) ?_
        refine Pv.iload rfl rfl ?_
        refine Pv.callVI (as := [.ref 12, .int (Int32.ofNat m)]) (rest := []) (z := b2i (m_alive S m)) rfl rfl rfl (f_isAlive (m := m) hS (by omega) (by omega)) ?_
        refine Pv.if0 rfl (fun c4 => ?_) (fun c4 => ?_)
        · skip
          replace c4 := of_decide_eq_true c4
          replace c4 := b2z.mp c4
          refine Pv.lit rfl ?_
          exact Pv.zret rfl (by rw [hQ]; exact ⟨b2_f (by unfold liv2; rw [hm]; dsimp only; rw [ho]; dsimp only; rw [if_neg (by simp [c3, c4])]; rfl), rfl⟩)
        · skip
          replace c4 := of_decide_eq_false c4
          replace c4 := b2n.mp c4
          refine Pv.aload rfl rfl ?_
          refine Pv.getR (v := .ref 12) rfl rfl (GW.at (a := 0) (k := 4) (b := 12) hG (by decide)) ?_
          refine Pv.iload rfl rfl ?_
          refine Pv.callVI (as := [.ref 12, .int (Int32.ofNat o)]) (rest := []) (z := b2i (m_alive S o)) rfl rfl rfl (f_isAlive (m := o) hS (by omega) (by omega)) ?_
          refine Pv.if0 rfl (fun c5 => ?_) (fun c5 => ?_)
          · skip
            replace c5 := of_decide_eq_true c5
            replace c5 := b2z.mp c5
            refine Pv.lit rfl ?_
            exact Pv.zret rfl (by rw [hQ]; exact ⟨b2_f (by unfold liv2; rw [hm]; dsimp only; rw [ho]; dsimp only; rw [if_neg (by simp [c3, c4, c5])]; rfl), rfl⟩)
          · skip
            replace c5 := of_decide_eq_false c5
            replace c5 := b2n.mp c5
            refine Pv.lit rfl ?_
            refine Pv.goto rfl ?_
            exact Pv.zret rfl (by rw [hQ]; exact ⟨b2_t (by unfold liv2; rw [hm]; dsimp only; rw [ho]; dsimp only; rw [if_pos ⟨c3, c4, c5⟩]; rfl), rfl⟩)
set_option maxRecDepth 100000 in
set_option maxHeartbeats 4000000 in
theorem o_apart {F : FW} {t : Nat} {T : St} {S : Sh} (hG : GW F) (ht : F.2.1 0 13 = .ref t) (hT : TR F t T) (hS : SHR F 12 (t_m T) S) (j0 : t = 45 ∨ t = 53) (x y : Int32) : Pm Z_X10_apart [.ref 0, .int x, .int y] F (fun r F' => r = some (.int (a_apart T S x y)) ∧ F' = F) := by
  refine Pm.of fun N => ?_
  obtain ⟨Q, hQ⟩ : ∃ Q : Option Value → FW → Prop, Q = (fun r F' => r = some (.int (a_apart T S x y)) ∧ F' = F) := ⟨_, rfl⟩
  rw [← hQ]
  have b3 := hT.mb
  have b4 := hT.nb
  have b5 := hT.gb
  have b6 := m_from_lt S
  have b7 := hS.db
  refine (show Pv (ab_T (L_X10_apart Z_X10_areLivingTwo Z_X6_apartOf)) N 0 [some (.ref 0), some (.int x), some (.int y)] [] F Q from ?_)
  refine Pv.aload rfl rfl ?_
  refine Pv.iload rfl rfl ?_
  refine Pv.iload rfl rfl ?_
  refine Pv.callVI (as := [.ref 0, .int x, .int y]) (rest := []) (z := b2i (liv2 T S x y).isSome) rfl rfl rfl (o_areLivingTwo hG ht hT hS j0 x y) ?_
  refine Pv.if0 rfl (fun c1 => ?_) (fun c1 => ?_)
  · skip
    replace c1 := of_decide_eq_true c1
    replace c1 := b2z.mp c1
    refine Pv.lit rfl ?_
    exact Pv.ret rfl (by rw [hQ]; exact ⟨by unfold a_apart; rw [liv2_n c1], rfl⟩)
  · skip
    replace c1 := of_decide_eq_false c1
    replace c1 := b2n.mp c1
    obtain ⟨⟨m, o⟩, hl⟩ := Option.isSome_iff_exists.mp c1
    obtain ⟨hm, ho, -, -, -, rfl, rfl⟩ := liv2_s hl
    refine Pv.aload rfl rfl ?_
    refine Pv.getR (v := .ref 12) rfl rfl (GW.at (a := 0) (k := 4) (b := 12) hG (by decide)) ?_
    refine Pv.iload rfl rfl ?_
    refine Pv.iload rfl rfl ?_
    refine Pv.callVI (as := [.ref 12, .int (Int32.ofNat m), .int (Int32.ofNat o)]) (rest := []) (z := m_apart S m o) rfl rfl rfl (f_apartOf (m := m) (o := o) hS (by omega) (by omega)) ?_
    refine Pv.goto rfl ?_
    exact Pv.ret rfl (by rw [hQ]; exact ⟨by unfold a_apart; rw [hl], rfl⟩)
set_option maxRecDepth 100000 in
set_option maxHeartbeats 4000000 in
theorem o_now {F : FW} {t : Nat} {T : St} {S : Sh} (hG : GW F) (ht : F.2.1 0 13 = .ref t) (hT : TR F t T) (hS : SHR F 12 (t_m T) S) (j0 : t = 45 ∨ t = 53) (w : Int32) : Pm Z_X10_now [.ref 0, .int w] F (fun r F' => r = some (.int (a_now T S w)) ∧ F' = F) := by
  refine Pm.of fun N => ?_
  obtain ⟨Q, hQ⟩ : ∃ Q : Option Value → FW → Prop, Q = (fun r F' => r = some (.int (a_now T S w)) ∧ F' = F) := ⟨_, rfl⟩
  rw [← hQ]
  have b3 := hT.mb
  have b4 := hT.nb
  have b5 := hT.gb
  have b6 := m_from_lt S
  have b7 := hS.db
  refine (show Pv (ab_T (L_X10_now Z_X6_ferryShore Z_X6_menOn Z_X6_hungerInAll)) N 0 [some (.ref 0), some (.int w)] [] F Q from ?_)
  refine Pv.iload rfl rfl ?_
  rcases nd_7 w with rfl | rfl | rfl | rfl | rfl | rfl | rfl | hw
  · refine Pv.tab (t := 44) rfl rfl ?_
    refine Pv.aload rfl rfl ?_
    refine Pv.getR (v := .ref 12) rfl rfl (GW.at (a := 0) (k := 4) (b := 12) hG (by decide)) ?_
    refine Pv.getI (z := Int32.ofNat (h_d S)) rfl rfl (hS.d) ?_
    exact Pv.ret rfl (by rw [hQ]; exact ⟨rfl, rfl⟩)
  · refine Pv.tab (t := 52) rfl rfl ?_
    refine Pv.aload rfl rfl ?_
    refine Pv.getR (v := .ref 12) rfl rfl (GW.at (a := 0) (k := 4) (b := 12) hG (by decide)) ?_
    refine Pv.callVI (as := [.ref 12]) (rest := []) (z := Int32.ofNat (m_from S)) rfl rfl rfl (f_ferryShore hS) ?_
    exact Pv.ret rfl (by rw [hQ]; exact ⟨rfl, rfl⟩)
  · refine Pv.tab (t := 60) rfl rfl ?_
    refine Pv.aload rfl rfl ?_
    refine Pv.getR (v := .ref 12) rfl rfl (GW.at (a := 0) (k := 4) (b := 12) hG (by decide)) ?_
    refine Pv.aload rfl rfl ?_
    refine Pv.getR (v := .ref t) rfl rfl (ht) ?_
    refine Pv.lit rfl ?_
    refine Pv.callVI (as := [.ref 12, .ref t, .int 0]) (rest := []) (z := m_men T S 0) rfl rfl rfl (f_menOn (x := 0) hT hS) ?_
    exact Pv.ret rfl (by rw [hQ]; exact ⟨rfl, rfl⟩)
  · refine Pv.tab (t := 73) rfl rfl ?_
    refine Pv.aload rfl rfl ?_
    refine Pv.getR (v := .ref 12) rfl rfl (GW.at (a := 0) (k := 4) (b := 12) hG (by decide)) ?_
    refine Pv.aload rfl rfl ?_
    refine Pv.getR (v := .ref t) rfl rfl (ht) ?_
    refine Pv.lit rfl ?_
    refine Pv.callVI (as := [.ref 12, .ref t, .int 1]) (rest := []) (z := m_men T S 1) rfl rfl rfl (f_menOn (x := 1) hT hS) ?_
    exact Pv.ret rfl (by rw [hQ]; exact ⟨rfl, rfl⟩)
  · refine Pv.tab (t := 86) rfl rfl ?_
    refine Pv.aload rfl rfl ?_
    refine Pv.getR (v := .ref 12) rfl rfl (GW.at (a := 0) (k := 4) (b := 12) hG (by decide)) ?_
    refine Pv.getI (z := h_i S) rfl rfl (hS.i) ?_
    exact Pv.ret rfl (by rw [hQ]; exact ⟨rfl, rfl⟩)
  · refine Pv.tab (t := 94) rfl rfl ?_
    refine Pv.aload rfl rfl ?_
    refine Pv.getR (v := .ref 12) rfl rfl (GW.at (a := 0) (k := 4) (b := 12) hG (by decide)) ?_
    refine Pv.getI (z := h_r S) rfl rfl (hS.r) ?_
    exact Pv.ret rfl (by rw [hQ]; exact ⟨rfl, rfl⟩)
  · refine Pv.tab (t := 102) rfl rfl ?_
    refine Pv.aload rfl rfl ?_
    refine Pv.getR (v := .ref 12) rfl rfl (GW.at (a := 0) (k := 4) (b := 12) hG (by decide)) ?_
    refine Pv.callVI (as := [.ref 12]) (rest := []) (z := m_sum (h_u S) 12) rfl rfl rfl (f_hungerInAll hS) ?_
    exact Pv.ret rfl (by rw [hQ]; exact ⟨rfl, rfl⟩)
  · refine Pv.tab (t := 110) rfl (nd_tab hw (by decide)) ?_
    refine Pv.lit rfl ?_
    exact Pv.ret rfl (by rw [hQ]; exact ⟨by unfold a_now; rw [hw], rfl⟩)
set_option maxRecDepth 100000 in
set_option maxHeartbeats 4000000 in
theorem o_going {F : FW} {t : Nat} {T : St} {S : Sh} (hG : GW F) (ht : F.2.1 0 13 = .ref t) (hT : TR F t T) (hS : SHR F 12 (t_m T) S) (j0 : t = 45 ∨ t = 53) : Pm Z_X10_going [.ref 0] F (fun r F' => r = some (.int (a_going T S)) ∧ CDR F F') := by
  refine Pm.of fun N => ?_
  obtain ⟨Q, hQ⟩ : ∃ Q : Option Value → FW → Prop, Q = (fun r F' => r = some (.int (a_going T S)) ∧ CDR F F') := ⟨_, rfl⟩
  rw [← hQ]
  have b3 := hT.mb
  have b4 := hT.nb
  have b5 := hT.gb
  have b6 := m_from_lt S
  have b7 := hS.db
  refine (show Pv (ab_T (L_X10_going Z_X1_plan)) N 0 [some (.ref 0)] [] F Q from ?_)
  refine Pv.aload rfl rfl ?_
  refine Pv.getR (v := .ref 7) rfl rfl (GW.at (a := 0) (k := 2) (b := 7) hG (by decide)) ?_
  refine Pv.aload rfl rfl ?_
  refine Pv.getR (v := .ref t) rfl rfl (ht) ?_
  refine Pv.aload rfl rfl ?_
  refine Pv.getR (v := .ref 12) rfl rfl (GW.at (a := 0) (k := 4) (b := 12) hG (by decide)) ?_
  refine Pv.callV (as := [.ref 7, .ref t, .ref 12]) (rest := []) rfl rfl rfl (f_plan hT hS hG (by omega) (by omega)) ?_
  rintro _ G1 ⟨rfl, x2, pl4⟩
  have hx3 := FX.tr (P := fun q => (7 ≤ q ∧ q ≤ 9) ∨ (20 ≤ q ∧ q ≤ 35) ∨ q = 40 ∨ q = 43) FX.rf (x2.wd (fun q (c : 7 ≤ q ∧ q ≤ 9) => (show (7 ≤ q ∧ q ≤ 9) ∨ (20 ≤ q ∧ q ≤ 35) ∨ q = 40 ∨ q = 43 by omega)))
  have hx5 := hT.fx (P := fun q => 7 ≤ q ∧ q ≤ 9) x2 (fun q h1 h2 (c : 7 ≤ q ∧ q ≤ 9) => by omega)
  have hx6 := hS.fx (P := fun q => 7 ≤ q ∧ q ≤ 9) x2 (fun q h1 h2 (c : 7 ≤ q ∧ q ≤ 9) => by omega)
  have hx7 := hG.fx (P := fun q => 7 ≤ q ∧ q ≤ 9) x2
  have hr8 : G1.2.1 0 13 = .ref t := by rw [x2.2.2.1]; exact ht
  have hr9 : G1.2.1 0 13 = .ref t := by rw [x2.2.2.1]; exact ht
  refine (show Pv _ _ 15 [some (.ref 0)] [] G1 Q from ?_)
  refine Pv.aload rfl rfl ?_
  refine Pv.getR (v := .ref 7) rfl rfl (GW.at (a := 0) (k := 2) (b := 7) hx7 (by decide)) ?_
  refine Pv.getI (z := m_board T S) rfl rfl (pl4.1) ?_
  exact Pv.ret rfl (by rw [hQ]; exact ⟨rfl, hx3⟩)
set_option maxRecDepth 100000 in
set_option maxHeartbeats 4000000 in
theorem o_goes {F : FW} {t : Nat} {T : St} {S : Sh} (hG : GW F) (ht : F.2.1 0 13 = .ref t) (hT : TR F t T) (hS : SHR F 12 (t_m T) S) (j0 : t = 45 ∨ t = 53) (x : Int32) : Pm Z_X10_goes [.ref 0, .int x] F (fun r F' => r = some (.int (a_goes T S x)) ∧ CDR F F') := by
  refine Pm.of fun N => ?_
  obtain ⟨Q, hQ⟩ : ∃ Q : Option Value → FW → Prop, Q = (fun r F' => r = some (.int (a_goes T S x)) ∧ CDR F F') := ⟨_, rfl⟩
  rw [← hQ]
  have b3 := hT.mb
  have b4 := hT.nb
  have b5 := hT.gb
  have b6 := m_from_lt S
  have b7 := hS.db
  refine (show Pv (ab_T (L_X10_goes Z_X10_isGood Z_X1_plan)) N 0 [some (.ref 0), some (.int x)] [] F Q from ?_)
  refine Pv.aload rfl rfl ?_
  refine Pv.iload rfl rfl ?_
  refine Pv.callVI (as := [.ref 0, .int x]) (rest := []) (z := b2i (nd (t_g T) x).isSome) rfl rfl rfl (o_isGood hG ht hT hS j0 x) ?_
  refine Pv.if0 rfl (fun c1 => ?_) (fun c1 => ?_)
  · skip
    replace c1 : decide (b2i (nd (t_g T) x).isSome = 0) = false := by simpa using c1
    replace c1 := of_decide_eq_false c1
    replace c1 := b2n.mp c1
    obtain ⟨g, hg, hgl, rfl⟩ := nd_t c1
    refine Pv.aload rfl rfl ?_
    refine Pv.getR (v := .ref 7) rfl rfl (GW.at (a := 0) (k := 2) (b := 7) hG (by decide)) ?_
    refine Pv.aload rfl rfl ?_
    refine Pv.getR (v := .ref t) rfl rfl (ht) ?_
    refine Pv.aload rfl rfl ?_
    refine Pv.getR (v := .ref 12) rfl rfl (GW.at (a := 0) (k := 4) (b := 12) hG (by decide)) ?_
    refine Pv.callV (as := [.ref 7, .ref t, .ref 12]) (rest := []) rfl rfl rfl (f_plan hT hS hG (by omega) (by omega)) ?_
    rintro _ G2 ⟨rfl, x3, pl5⟩
    have hx4 := FX.tr (P := fun q => (7 ≤ q ∧ q ≤ 9) ∨ (20 ≤ q ∧ q ≤ 35) ∨ q = 40 ∨ q = 43) FX.rf (x3.wd (fun q (c : 7 ≤ q ∧ q ≤ 9) => (show (7 ≤ q ∧ q ≤ 9) ∨ (20 ≤ q ∧ q ≤ 35) ∨ q = 40 ∨ q = 43 by omega)))
    have hx6 := hT.fx (P := fun q => 7 ≤ q ∧ q ≤ 9) x3 (fun q h1 h2 (c : 7 ≤ q ∧ q ≤ 9) => by omega)
    have hx7 := hS.fx (P := fun q => 7 ≤ q ∧ q ≤ 9) x3 (fun q h1 h2 (c : 7 ≤ q ∧ q ≤ 9) => by omega)
    have hx8 := hG.fx (P := fun q => 7 ≤ q ∧ q ≤ 9) x3
    have hr9 : G2.2.1 0 13 = .ref t := by rw [x3.2.2.1]; exact ht
    have hr10 : G2.2.1 0 13 = .ref t := by rw [x3.2.2.1]; exact ht
    refine (show Pv _ _ 25 [some (.ref 0), some (.int (Int32.ofNat g))] [] G2 Q from ?_)
    refine Pv.aload rfl rfl ?_
    refine Pv.getR (v := .ref 7) rfl rfl (GW.at (a := 0) (k := 2) (b := 7) hx8 (by decide)) ?_
    refine Pv.getR (v := .ref 8) rfl rfl (GW.at (a := 7) (k := 0) (b := 8) hx8 (by decide)) ?_
    refine Pv.iload rfl rfl ?_
    refine Pv.ald (z := m_fr T S g) rfl (by rw [i_toNat (by omega)]; exact pl5.2.2.1 _ (by omega)) ?_
    exact Pv.ret rfl (by rw [hQ]; exact ⟨by unfold a_goes; rw [hg], hx4⟩)
  · skip
    replace c1 : decide (b2i (nd (t_g T) x).isSome = 0) = true := by simpa using c1
    replace c1 := of_decide_eq_true c1
    replace c1 := b2z.mp c1
    refine Pv.lit rfl ?_
    exact Pv.ret rfl (by rw [hQ]; exact ⟨by unfold a_goes; rw [nd_f c1], FX.rf⟩)
