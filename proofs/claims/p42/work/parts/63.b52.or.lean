set_option maxRecDepth 100000 in
set_option maxHeartbeats 4000000 in
theorem q_isIn {F : FW} (x y z : Int32) : Pm Z_X11_isIn [.int x, .int y, .int z] F (fun r F' => r = some (.int (b2i (decide (y ≤ x) && decide (x ≤ z)))) ∧ F' = F) := by
  refine Pm.of fun N => ?_
  obtain ⟨Q, hQ⟩ : ∃ Q : Option Value → FW → Prop, Q = (fun r F' => r = some (.int (b2i (decide (y ≤ x) && decide (x ≤ z)))) ∧ F' = F) := ⟨_, rfl⟩
  rw [← hQ]
  refine (show Pv (ab_T L_X11_isIn) N 0 [some (.int x), some (.int y), some (.int z)] [] F Q from ?_)
  refine Pv.iload rfl rfl ?_
  refine Pv.iload rfl rfl ?_
  refine Pv.icmp rfl (fun c1 => ?_) (fun c1 => ?_)
  · skip
    replace c1 := of_decide_eq_true c1
    refine Pv.lit rfl ?_
    exact Pv.zret rfl (by rw [hQ]; exact ⟨b2_f (by rw [decide_eq_false (Int32.not_le.mpr c1)]; rfl), rfl⟩)
  · skip
    replace c1 := of_decide_eq_false c1
    refine Pv.iload rfl rfl ?_
    refine Pv.iload rfl rfl ?_
    refine Pv.icmp rfl (fun c2 => ?_) (fun c2 => ?_)
    · skip
      replace c2 := of_decide_eq_true c2
      refine Pv.lit rfl ?_
      exact Pv.zret rfl (by rw [hQ]; exact ⟨b2_f (by rw [decide_eq_false (Int32.not_le.mpr c2), Bool.and_false]), rfl⟩)
    · skip
      replace c2 := of_decide_eq_false c2
      refine Pv.lit rfl ?_
      refine Pv.goto rfl ?_
      exact Pv.zret rfl (by rw [hQ]; exact ⟨b2_t (by rw [decide_eq_true (Int32.not_lt.mp c1), decide_eq_true (Int32.not_lt.mp c2)]; rfl), rfl⟩)
set_option maxRecDepth 100000 in
set_option maxHeartbeats 4000000 in
theorem q_isGood {F : FW} {T : St} (hT : XT F T) (hG : GW F) (x : Int32) : Pm Z_X11_isGood [.ref 69, .int x] F (fun r F' => r = some (.int (b2i (nd (t_g T) x).isSome)) ∧ F' = F) := by
  refine Pm.of fun N => ?_
  obtain ⟨Q, hQ⟩ : ∃ Q : Option Value → FW → Prop, Q = (fun r F' => r = some (.int (b2i (nd (t_g T) x).isSome)) ∧ F' = F) := ⟨_, rfl⟩
  rw [← hQ]
  have b5 := hT.gb
  refine (show Pv (ab_T (L_X11_isGood Z_X11_isIn)) N 0 [some (.ref 69), some (.int x)] [] F Q from ?_)
  refine Pv.iload rfl rfl ?_
  refine Pv.lit rfl ?_
  refine Pv.aload rfl rfl ?_
  refine Pv.getR (v := .ref 71) rfl rfl (GW.at (a := 69) (k := 6) (b := 71) hG (by decide)) ?_
  refine Pv.lit rfl ?_
  refine Pv.ald (z := Int32.ofNat (t_g T)) rfl (hT.g) ?_
  refine Pv.lit rfl ?_
  refine Pv.bin (z := (Int32.ofNat (t_g T)) - 1) rfl (rfl) ?_
  refine Pv.callI (as := [.int x, .int 0, .int ((Int32.ofNat (t_g T)) - 1)]) (rest := []) (z := b2i (decide (0 ≤ x) && decide (x ≤ ((Int32.ofNat (t_g T)) - 1)))) rfl rfl rfl (q_isIn x 0 ((Int32.ofNat (t_g T)) - 1)) ?_
  exact Pv.zret rfl (by rw [hQ]; exact ⟨by rw [← nd_in (by omega)]; try rfl, rfl⟩)
set_option maxRecDepth 100000 in
set_option maxHeartbeats 4000000 in
theorem q_isMan {F : FW} {T : St} (hT : XT F T) (hG : GW F) (x : Int32) : Pm Z_X11_isMan [.ref 69, .int x] F (fun r F' => r = some (.int (b2i (nd (t_m T) x).isSome)) ∧ F' = F) := by
  refine Pm.of fun N => ?_
  obtain ⟨Q, hQ⟩ : ∃ Q : Option Value → FW → Prop, Q = (fun r F' => r = some (.int (b2i (nd (t_m T) x).isSome)) ∧ F' = F) := ⟨_, rfl⟩
  rw [← hQ]
  have b3 := hT.mb
  refine (show Pv (ab_T (L_X11_isMan Z_X11_isIn)) N 0 [some (.ref 69), some (.int x)] [] F Q from ?_)
  refine Pv.iload rfl rfl ?_
  refine Pv.lit rfl ?_
  refine Pv.aload rfl rfl ?_
  refine Pv.getR (v := .ref 71) rfl rfl (GW.at (a := 69) (k := 6) (b := 71) hG (by decide)) ?_
  refine Pv.lit rfl ?_
  refine Pv.ald (z := Int32.ofNat (t_m T)) rfl (hT.m) ?_
  refine Pv.lit rfl ?_
  refine Pv.bin (z := (Int32.ofNat (t_m T)) - 1) rfl (rfl) ?_
  refine Pv.callI (as := [.int x, .int 0, .int ((Int32.ofNat (t_m T)) - 1)]) (rest := []) (z := b2i (decide (0 ≤ x) && decide (x ≤ ((Int32.ofNat (t_m T)) - 1)))) rfl rfl rfl (q_isIn x 0 ((Int32.ofNat (t_m T)) - 1)) ?_
  exact Pv.zret rfl (by rw [hQ]; exact ⟨by rw [← nd_in (by omega)]; try rfl, rfl⟩)
set_option maxRecDepth 100000 in
set_option maxHeartbeats 4000000 in
theorem q_isShore {F : FW} (x : Int32) : Pm Z_X11_isShore [.ref 69, .int x] F (fun r F' => r = some (.int (b2i (nd 2 x).isSome)) ∧ F' = F) := by
  refine Pm.of fun N => ?_
  obtain ⟨Q, hQ⟩ : ∃ Q : Option Value → FW → Prop, Q = (fun r F' => r = some (.int (b2i (nd 2 x).isSome)) ∧ F' = F) := ⟨_, rfl⟩
  rw [← hQ]
  refine (show Pv (ab_T (L_X11_isShore Z_X11_isIn)) N 0 [some (.ref 69), some (.int x)] [] F Q from ?_)
  refine Pv.iload rfl rfl ?_
  refine Pv.lit rfl ?_
  refine Pv.lit rfl ?_
  refine Pv.callI (as := [.int x, .int 0, .int 1]) (rest := []) (z := b2i (decide (0 ≤ x) && decide (x ≤ 1))) rfl rfl rfl (q_isIn x 0 1) ?_
  exact Pv.zret rfl (by rw [hQ]; exact ⟨by rw [← nd_in (by omega)]; rfl, rfl⟩)
set_option maxRecDepth 100000 in
set_option maxHeartbeats 4000000 in
theorem q_isPlace {F : FW} {T : St} (hT : XT F T) (hG : GW F) (x y : Int32) : Pm Z_X11_isPlace [.ref 69, .int x, .int y] F (fun r F' => r = some (.int (b2i ((nd (t_g T) x).isSome && (nd 2 y).isSome))) ∧ F' = F) := by
  refine Pm.of fun N => ?_
  obtain ⟨Q, hQ⟩ : ∃ Q : Option Value → FW → Prop, Q = (fun r F' => r = some (.int (b2i ((nd (t_g T) x).isSome && (nd 2 y).isSome))) ∧ F' = F) := ⟨_, rfl⟩
  rw [← hQ]
  refine (show Pv (ab_T (L_X11_isPlace Z_X11_isGood Z_X11_isShore)) N 0 [some (.ref 69), some (.int x), some (.int y)] [] F Q from ?_)
  refine Pv.aload rfl rfl ?_
  refine Pv.iload rfl rfl ?_
  refine Pv.callVI (as := [.ref 69, .int x]) (rest := []) (z := b2i (nd (t_g T) x).isSome) rfl rfl rfl (q_isGood hT hG x) ?_
  refine Pv.if0 rfl (fun c1 => ?_) (fun c1 => ?_)
  · skip
    replace c1 := of_decide_eq_true c1
    replace c1 := b2z.mp c1
    refine Pv.lit rfl ?_
    exact Pv.zret rfl (by rw [hQ]; exact ⟨b2_f (by simp [c1]), rfl⟩)
  · skip
    replace c1 := of_decide_eq_false c1
    replace c1 := b2n.mp c1
    refine Pv.aload rfl rfl ?_
    refine Pv.iload rfl rfl ?_
    refine Pv.callVI (as := [.ref 69, .int y]) (rest := []) (z := b2i (nd 2 y).isSome) rfl rfl rfl (q_isShore y) ?_
    refine Pv.if0 rfl (fun c2 => ?_) (fun c2 => ?_)
    · skip
      replace c2 := of_decide_eq_true c2
      replace c2 := b2z.mp c2
      refine Pv.lit rfl ?_
      exact Pv.zret rfl (by rw [hQ]; exact ⟨b2_f (by simp [c1, c2]), rfl⟩)
    · skip
      replace c2 := of_decide_eq_false c2
      replace c2 := b2n.mp c2
      refine Pv.lit rfl ?_
      refine Pv.goto rfl ?_
      exact Pv.zret rfl (by rw [hQ]; exact ⟨b2_t (by simp [c1, c2]), rfl⟩)
set_option maxRecDepth 100000 in
set_option maxHeartbeats 4000000 in
theorem q_isFalse {F : FW} {g s : Nat} {w x y : Int32} (hG : GW F) (hb : g < 1000) (hb2 : s < 1000) (h1 : F.1 71 (16 + (2 * g + s)) = w) (h2 : F.1 71 (124 + (2 * g + s)) = x) (h3 : F.1 71 (136 + (2 * g + s)) = y) : Pm Z_X11_isFalse [.ref 69, .int (Int32.ofNat g), .int (Int32.ofNat s)] F (fun r F' => r = some (.int (b2i (m_falser w x y))) ∧ F' = F) := by
  refine Pm.of fun N => ?_
  obtain ⟨Q, hQ⟩ : ∃ Q : Option Value → FW → Prop, Q = (fun r F' => r = some (.int (b2i (m_falser w x y))) ∧ F' = F) := ⟨_, rfl⟩
  rw [← hQ]
  refine (show Pv (ab_T (L_X11_isFalse Z_X11_lackOf Z_X11_cell)) N 0 [some (.ref 69), some (.int (Int32.ofNat g)), some (.int (Int32.ofNat s))] [] F Q from ?_)
  refine Pv.aload rfl rfl ?_
  refine Pv.iload rfl rfl ?_
  refine Pv.iload rfl rfl ?_
  refine Pv.callVI (as := [.ref 69, .int (Int32.ofNat g), .int (Int32.ofNat s)]) (rest := []) (z := m_lackr w x) rfl rfl rfl (g_lackOf (g := g) (s := s) (w := w) (x := x) hG (by omega) (by omega) (h1) (h2)) ?_
  refine Pv.if0 rfl (fun c1 => ?_) (fun c1 => ?_)
  · skip
    replace c1 := of_decide_eq_true c1
    refine Pv.lit rfl ?_
    exact Pv.zret rfl (by rw [hQ]; exact ⟨b2_f (by unfold m_falser; simp [c1]), rfl⟩)
  · skip
    replace c1 := of_decide_eq_false c1
    refine Pv.aload rfl rfl ?_
    refine Pv.iload rfl rfl ?_
    refine Pv.iload rfl rfl ?_
    refine Pv.callVI (as := [.ref 69, .int (Int32.ofNat g), .int (Int32.ofNat s)]) (rest := []) (z := m_lackr w x) rfl rfl rfl (g_lackOf (g := g) (s := s) (w := w) (x := x) hG (by omega) (by omega) (h1) (h2)) ?_
    refine Pv.aload rfl rfl ?_
    refine Pv.getR (v := .ref 71) rfl rfl (GW.at (a := 69) (k := 6) (b := 71) hG (by decide)) ?_
    refine Pv.lit rfl ?_
    refine Pv.iload rfl rfl ?_
    refine Pv.iload rfl rfl ?_
    refine Pv.callI (as := [.int (Int32.ofNat g), .int (Int32.ofNat s)]) (rest := [.int 136, .ref 71, .int (m_lackr w x)]) (z := Int32.ofNat (2 * g + s)) rfl rfl rfl (g_cell (g := g) (s := s)) ?_
    refine Pv.bin (z := Int32.ofNat (136 + (2 * g + s))) rfl (i_add 136 (2 * g + s)) ?_
    refine Pv.ald (z := y) rfl (by rw [i_toNat (by omega)]; exact h3) ?_
    refine Pv.icmp rfl (fun c2 => ?_) (fun c2 => ?_)
    · skip
      replace c2 := of_decide_eq_true c2
      refine Pv.lit rfl ?_
      exact Pv.zret rfl (by rw [hQ]; exact ⟨b2_f (by unfold m_falser; simp [c1, Int32.not_le.mpr c2]), rfl⟩)
    · skip
      replace c2 := of_decide_eq_false c2
      refine Pv.lit rfl ?_
      refine Pv.goto rfl ?_
      exact Pv.zret rfl (by rw [hQ]; exact ⟨b2_t (by unfold m_falser; simp [c1, Int32.not_lt.mp c2]), rfl⟩)
set_option maxRecDepth 100000 in
set_option maxHeartbeats 4000000 in
theorem q_good {F : FW} {T : St} {S : Sh} (hT : XT F T) (hS : XS F (t_m T) S) (hG : GW F) (hTB : TBB T) (hSB : SB S) (hHB : HB S) (x y w : Int32) : Pm Z_X11_good [.ref 69, .int x, .int y, .int w] F (fun r F' => r = some (.int (a_good T S x y w)) ∧ RDR F F') := by
  refine Pm.of fun N => ?_
  obtain ⟨Q, hQ⟩ : ∃ Q : Option Value → FW → Prop, Q = (fun r F' => r = some (.int (a_good T S x y w)) ∧ RDR F F') := ⟨_, rfl⟩
  rw [← hQ]
  have b3 := hT.mb
  have b4 := hT.nb
  have b5 := hT.gb
  have b6 := m_from_lt S
  have b7 := hS.db
  refine (show Pv (ab_T (L_X11_good Z_X11_isPlace Z_X11_cell Z_X11_lackOf Z_X11_isFalse)) N 0 [some (.ref 69), some (.int x), some (.int y), some (.int w), none] [] F Q from ?_)
  refine Pv.aload rfl rfl ?_
  refine Pv.lit rfl ?_
  refine Pv.putI rfl rfl ?_
  refine Pv.aload rfl rfl ?_
  refine Pv.iload rfl rfl ?_
  refine Pv.iload rfl rfl ?_
  refine Pv.callVI (as := [.ref 69, .int x, .int y]) (rest := []) (z := b2i ((nd (t_g T) x).isSome && (nd 2 y).isSome)) rfl rfl rfl (q_isPlace (hT.fx (P := fun q => q = 69) (((FX.rf (P := fun q => q = 69))).fp rfl) (by decide)) (hG.fx (P := fun _ => True) (((FX.rf (P := fun _ => True))).fp trivial)) x y) ?_
  refine Pv.if0 rfl (fun c1 => ?_) (fun c1 => ?_)
  · skip
    replace c1 : decide (b2i ((nd (t_g T) x).isSome && (nd 2 y).isSome) = 0) = false := by simpa using c1
    replace c1 := of_decide_eq_false c1
    replace c1 := b2n.mp c1
    obtain ⟨g, s, hg, hs, hgl, hsl, rfl, rfl⟩ := gs_t c1
    refine Pv.iload rfl rfl ?_
    refine Pv.iload rfl rfl ?_
    refine Pv.callI (as := [.int (Int32.ofNat g), .int (Int32.ofNat s)]) (rest := []) (z := Int32.ofNat (2 * g + s)) rfl rfl rfl (g_cell (g := g) (s := s)) ?_
    refine Pv.istore (lo' := [some (.ref 69), some (.int (Int32.ofNat g)), some (.int (Int32.ofNat s)), some (.int w), some (.int (Int32.ofNat (2 * g + s)))]) rfl rfl ?_
    refine Pv.iload rfl rfl ?_
    rcases nd_8 w with rfl | rfl | rfl | rfl | rfl | rfl | rfl | rfl | hw
    · refine Pv.tab (t := 72) rfl rfl ?_
      refine Pv.aload rfl rfl ?_
      refine Pv.getR (v := .ref 71) rfl rfl (GW.at (a := 69) (k := 6) (b := 71) hG (by decide)) ?_
      refine Pv.lit rfl ?_
      refine Pv.iload rfl rfl ?_
      refine Pv.bin (z := Int32.ofNat (124 + (2 * g + s))) rfl (i_add 124 (2 * g + s)) ?_
      refine Pv.ald (z := h_s S (2 * g + s)) rfl (by rw [i_toNat (by omega)]; exact (fp_ne (Or.inl (by decide))).trans (hS.s _ (by omega))) ?_
      exact Pv.ret rfl (by rw [hQ]; exact ⟨by unfold a_good; rw [aGS_t hg hs]; try rfl, (RDR.rf).fp (Or.inl rfl)⟩)
    · refine Pv.tab (t := 83) rfl rfl ?_
      refine Pv.aload rfl rfl ?_
      refine Pv.getR (v := .ref 71) rfl rfl (GW.at (a := 69) (k := 6) (b := 71) hG (by decide)) ?_
      refine Pv.lit rfl ?_
      refine Pv.iload rfl rfl ?_
      refine Pv.bin (z := Int32.ofNat (136 + (2 * g + s))) rfl (i_add 136 (2 * g + s)) ?_
      refine Pv.ald (z := h_h S (2 * g + s)) rfl (by rw [i_toNat (by omega)]; exact (fp_ne (Or.inl (by decide))).trans (hS.h _ (by omega))) ?_
      exact Pv.ret rfl (by rw [hQ]; exact ⟨by unfold a_good; rw [aGS_t hg hs]; try rfl, (RDR.rf).fp (Or.inl rfl)⟩)
    · refine Pv.tab (t := 95) rfl rfl ?_
      refine Pv.aload rfl rfl ?_
      refine Pv.getR (v := .ref 71) rfl rfl (GW.at (a := 69) (k := 6) (b := 71) hG (by decide)) ?_
      refine Pv.lit rfl ?_
      refine Pv.iload rfl rfl ?_
      refine Pv.bin (z := Int32.ofNat (16 + (2 * g + s))) rfl (i_add 16 (2 * g + s)) ?_
      refine Pv.ald (z := t_a T (1 * 12 + (2 * g + s))) rfl (by rw [i_toNat (by omega)]; exact (fp_ne (Or.inl (by decide))).trans (hT.wa _ (by omega))) ?_
      exact Pv.ret rfl (by rw [hQ]; exact ⟨by unfold a_good; rw [aGS_t hg hs]; try rfl, (RDR.rf).fp (Or.inl rfl)⟩)
    · refine Pv.tab (t := 106) rfl rfl ?_
      refine Pv.aload rfl rfl ?_
      refine Pv.getR (v := .ref 71) rfl rfl (GW.at (a := 69) (k := 6) (b := 71) hG (by decide)) ?_
      refine Pv.lit rfl ?_
      refine Pv.iload rfl rfl ?_
      refine Pv.bin (z := Int32.ofNat (28 + (2 * g + s))) rfl (i_add 28 (2 * g + s)) ?_
      refine Pv.ald (z := t_a T (24 + (2 * g + s))) rfl (by rw [i_toNat (by omega)]; exact (fp_ne (Or.inl (by decide))).trans (hT.e _ (by omega))) ?_
      exact Pv.ret rfl (by rw [hQ]; exact ⟨by unfold a_good; rw [aGS_t hg hs]; try rfl, (RDR.rf).fp (Or.inl rfl)⟩)
    · refine Pv.tab (t := 117) rfl rfl ?_
      refine Pv.aload rfl rfl ?_
      refine Pv.getR (v := .ref 71) rfl rfl (GW.at (a := 69) (k := 6) (b := 71) hG (by decide)) ?_
      refine Pv.lit rfl ?_
      refine Pv.iload rfl rfl ?_
      refine Pv.bin (z := Int32.ofNat (40 + (2 * g + s))) rfl (i_add 40 (2 * g + s)) ?_
      refine Pv.ald (z := t_a T (36 + (2 * g + s))) rfl (by rw [i_toNat (by omega)]; exact (fp_ne (Or.inl (by decide))).trans (hT.k _ (by omega))) ?_
      exact Pv.ret rfl (by rw [hQ]; exact ⟨by unfold a_good; rw [aGS_t hg hs]; try rfl, (RDR.rf).fp (Or.inl rfl)⟩)
    · refine Pv.tab (t := 128) rfl rfl ?_
      refine Pv.aload rfl rfl ?_
      refine Pv.iload rfl rfl ?_
      refine Pv.iload rfl rfl ?_
      refine Pv.callVI (as := [.ref 69, .int (Int32.ofNat g), .int (Int32.ofNat s)]) (rest := []) (z := m_lackr (t_a T (1 * 12 + (2 * g + s))) (h_s S (2 * g + s))) rfl rfl rfl (g_lackOf (g := g) (s := s) (w := t_a T (1 * 12 + (2 * g + s))) (x := h_s S (2 * g + s)) (hG.fx (P := fun _ => True) (((FX.rf (P := fun _ => True))).fp trivial)) (by omega) (by omega) ((fp_ne (Or.inl (by decide))).trans (hT.wa _ (by omega))) ((fp_ne (Or.inl (by decide))).trans (hS.s _ (by omega)))) ?_
      exact Pv.ret rfl (by rw [hQ]; exact ⟨by unfold a_good; rw [aGS_t hg hs]; exact congrArg (fun z => some (Value.int z)) lackr_eq, (RDR.rf).fp (Or.inl rfl)⟩)
    · refine Pv.tab (t := 135) rfl rfl ?_
      refine Pv.aload rfl rfl ?_
      refine Pv.iload rfl rfl ?_
      refine Pv.iload rfl rfl ?_
      refine Pv.callVI (as := [.ref 69, .int (Int32.ofNat g), .int (Int32.ofNat s)]) (rest := []) (z := b2i (m_falser (t_a T (1 * 12 + (2 * g + s))) (h_s S (2 * g + s)) (h_h S (2 * g + s)))) rfl rfl rfl (q_isFalse (g := g) (s := s) (w := t_a T (1 * 12 + (2 * g + s))) (x := h_s S (2 * g + s)) (y := h_h S (2 * g + s)) (hG.fx (P := fun _ => True) (((FX.rf (P := fun _ => True))).fp trivial)) (by omega) (by omega) ((fp_ne (Or.inl (by decide))).trans (hT.wa _ (by omega))) ((fp_ne (Or.inl (by decide))).trans (hS.s _ (by omega))) ((fp_ne (Or.inl (by decide))).trans (hS.h _ (by omega)))) ?_
      refine Pv.if0 rfl (fun c2 => ?_) (fun c2 => ?_)
      · skip
        replace c2 := of_decide_eq_true c2
        replace c2 := b2z.mp c2
        refine Pv.lit rfl ?_
        exact Pv.ret rfl (by rw [hQ]; exact ⟨by unfold a_good; rw [aGS_t hg hs]; show _ = some (Value.int (b2i (m_false T S (2 * g + s)))); rw [m_false_eq hTB hSB hHB b7 (by omega)]; exact b2_f c2, (RDR.rf).fp (Or.inl rfl)⟩)
      · skip
        replace c2 := of_decide_eq_false c2
        replace c2 := b2n.mp c2
        refine Pv.lit rfl ?_
        refine Pv.goto rfl ?_
        exact Pv.ret rfl (by rw [hQ]; exact ⟨by unfold a_good; rw [aGS_t hg hs]; show _ = some (Value.int (b2i (m_false T S (2 * g + s)))); rw [m_false_eq hTB hSB hHB b7 (by omega)]; exact b2_t c2, (RDR.rf).fp (Or.inl rfl)⟩)
    · refine Pv.tab (t := 150) rfl rfl ?_
      refine Pv.aload rfl rfl ?_
      refine Pv.getR (v := .ref 71) rfl rfl (GW.at (a := 69) (k := 6) (b := 71) hG (by decide)) ?_
      refine Pv.lit rfl ?_
      refine Pv.iload rfl rfl ?_
      refine Pv.bin (z := Int32.ofNat (148 + (2 * g + s))) rfl (i_add 148 (2 * g + s)) ?_
      refine Pv.ald (z := h_u S (2 * g + s)) rfl (by rw [i_toNat (by omega)]; exact (fp_ne (Or.inl (by decide))).trans (hS.u _ (by omega))) ?_
      exact Pv.ret rfl (by rw [hQ]; exact ⟨by unfold a_good; rw [aGS_t hg hs]; try rfl, (RDR.rf).fp (Or.inl rfl)⟩)
    · refine Pv.tab (t := 162) rfl (nd_tab hw (by decide)) ?_
      refine Pv.lit rfl ?_
      exact Pv.ret rfl (by rw [hQ]; exact ⟨by unfold a_good; rw [aGS_t hg hs, hw], (RDR.rf).fp (Or.inl rfl)⟩)
  · skip
    replace c1 : decide (b2i ((nd (t_g T) x).isSome && (nd 2 y).isSome) = 0) = true := by simpa using c1
    replace c1 := of_decide_eq_true c1
    replace c1 := b2z.mp c1
    refine Pv.lit rfl ?_
    exact Pv.ret rfl (by rw [hQ]; exact ⟨by unfold a_good; rw [aGS_f c1], (RDR.rf).fp (Or.inl rfl)⟩)
set_option maxRecDepth 100000 in
set_option maxHeartbeats 4000000 in
theorem q_crossed {F : FW} {T : St} {S : Sh} (hT : XT F T) (hS : XS F (t_m T) S) (hG : GW F) (x y : Int32) : Pm Z_X11_crossed [.ref 69, .int x, .int y] F (fun r F' => r = some (.int (a_crossed T S x y)) ∧ RDR F F') := by
  refine Pm.of fun N => ?_
  obtain ⟨Q, hQ⟩ : ∃ Q : Option Value → FW → Prop, Q = (fun r F' => r = some (.int (a_crossed T S x y)) ∧ RDR F F') := ⟨_, rfl⟩
  rw [← hQ]
  have b3 := hT.mb
  have b4 := hT.nb
  have b5 := hT.gb
  have b6 := m_from_lt S
  have b7 := hS.db
  refine (show Pv (ab_T (L_X11_crossed Z_X11_isPlace Z_X11_cell)) N 0 [some (.ref 69), some (.int x), some (.int y)] [] F Q from ?_)
  refine Pv.aload rfl rfl ?_
  refine Pv.lit rfl ?_
  refine Pv.putI rfl rfl ?_
  refine Pv.aload rfl rfl ?_
  refine Pv.iload rfl rfl ?_
  refine Pv.iload rfl rfl ?_
  refine Pv.callVI (as := [.ref 69, .int x, .int y]) (rest := []) (z := b2i ((nd (t_g T) x).isSome && (nd 2 y).isSome)) rfl rfl rfl (q_isPlace (hT.fx (P := fun q => q = 69) (((FX.rf (P := fun q => q = 69))).fp rfl) (by decide)) (hG.fx (P := fun _ => True) (((FX.rf (P := fun _ => True))).fp trivial)) x y) ?_
  refine Pv.if0 rfl (fun c1 => ?_) (fun c1 => ?_)
  · skip
    replace c1 := of_decide_eq_true c1
    replace c1 := b2z.mp c1
    refine Pv.lit rfl ?_
    exact Pv.ret rfl (by rw [hQ]; exact ⟨by unfold a_crossed; rw [aGS_f c1], (RDR.rf).fp (Or.inl rfl)⟩)
  · skip
    replace c1 := of_decide_eq_false c1
    replace c1 := b2n.mp c1
    obtain ⟨g, s, hg, hs, hgl, hsl, rfl, rfl⟩ := gs_t c1
    refine Pv.aload rfl rfl ?_
    refine Pv.getR (v := .ref 71) rfl rfl (GW.at (a := 69) (k := 6) (b := 71) hG (by decide)) ?_
    refine Pv.lit rfl ?_
    refine Pv.iload rfl rfl ?_
    refine Pv.iload rfl rfl ?_
    refine Pv.callI (as := [.int (Int32.ofNat g), .int (Int32.ofNat s)]) (rest := [.int 160, .ref 71]) (z := Int32.ofNat (2 * g + s)) rfl rfl rfl (g_cell (g := g) (s := s)) ?_
    refine Pv.bin (z := Int32.ofNat (160 + (2 * g + s))) rfl (i_add 160 (2 * g + s)) ?_
    refine Pv.ald (z := h_c S (2 * g + s)) rfl (by rw [i_toNat (by omega)]; exact (fp_ne (Or.inl (by decide))).trans (hS.c _ (by omega))) ?_
    refine Pv.goto rfl ?_
    exact Pv.ret rfl (by rw [hQ]; exact ⟨by unfold a_crossed; rw [aGS_t hg hs]; try rfl, (RDR.rf).fp (Or.inl rfl)⟩)
set_option maxRecDepth 100000 in
set_option maxHeartbeats 4000000 in
theorem q_lacks {F : FW} {T : St} {S : Sh} (hT : XT F T) (hS : XS F (t_m T) S) (hG : GW F) (y : Int32) : Pm Z_X11_lacks [.ref 69, .int y] F (fun r F' => r = some (.int (a_lacks T S y)) ∧ RDR F F') := by
  refine Pm.of fun N => ?_
  obtain ⟨Q, hQ⟩ : ∃ Q : Option Value → FW → Prop, Q = (fun r F' => r = some (.int (a_lacks T S y)) ∧ RDR F F') := ⟨_, rfl⟩
  rw [← hQ]
  have b3 := hT.mb
  have b4 := hT.nb
  have b5 := hT.gb
  have b6 := m_from_lt S
  have b7 := hS.db
  refine (show Pv (ab_T (L_X11_lacks Z_X11_isShore Z_X11_lackOf)) N 0 [some (.ref 69), some (.int y), none, none] [] F Q from ?_)
  refine Pv.aload rfl rfl ?_
  refine Pv.lit rfl ?_
  refine Pv.putI rfl rfl ?_
  refine Pv.aload rfl rfl ?_
  refine Pv.iload rfl rfl ?_
  refine Pv.callVI (as := [.ref 69, .int y]) (rest := []) (z := b2i (nd 2 y).isSome) rfl rfl rfl (q_isShore y) ?_
  refine Pv.if0 rfl (fun c1 => ?_) (fun c1 => ?_)
  · skip
    replace c1 : decide (b2i (nd 2 y).isSome = 0) = false := by simpa using c1
    replace c1 := of_decide_eq_false c1
    replace c1 := b2n.mp c1
    obtain ⟨s, hs, hsl, rfl⟩ := nd_t c1
    refine Pv.lit rfl ?_
    refine Pv.istore (lo' := [some (.ref 69), some (.int (Int32.ofNat s)), some (.int 0), none]) rfl rfl ?_
    refine Pv.lit rfl ?_
    refine Pv.istore (lo' := [some (.ref 69), some (.int (Int32.ofNat s)), some (.int 0), some (.int 0)]) rfl rfl ?_
    refine Pv.lp (ι := Nat × Int32) (lof := fun ⟨k, b⟩ => [some (.ref 69), some (.int (Int32.ofNat s)), some (.int b), some (.int (Int32.ofNat k))]) (Ff := fun ⟨k, b⟩ => (fp F 69 0 0)) (P := fun ⟨k, b⟩ => k ≤ t_g T ∧ b = m_bits (fun g => !decide (m_lack T S (2 * g + s) ≤ 0)) id k) ?_ (0, 0) (⟨Nat.zero_le _, rfl⟩)
    rintro N2 hN3 ⟨k, b⟩ hi4 ih5
    refine (show Pv _ _ 19 [some (.ref 69), some (.int (Int32.ofNat s)), some (.int b), some (.int (Int32.ofNat k))] [] (fp F 69 0 0) Q from ?_)
    obtain ⟨hk, hb⟩ := hi4
    refine Pv.iloadS rfl rfl ?_
    refine Pv.aload rfl rfl ?_
    refine Pv.getR (v := .ref 71) rfl rfl (GW.at (a := 69) (k := 6) (b := 71) hG (by decide)) ?_
    refine Pv.lit rfl ?_
    refine Pv.ald (z := Int32.ofNat (t_g T)) rfl ((fp_ne (Or.inl (by decide))).trans (hT.g)) ?_
    refine Pv.icmp rfl (fun c6 => ?_) (fun c6 => ?_)
    · skip
      replace c6 := (i_le (a := t_g T) (b := k) (by omega) (by omega)).mp (of_decide_eq_true c6)
      refine Pv.iload rfl rfl ?_
      exact Pv.ret rfl (by rw [hQ]; exact ⟨by unfold a_lacks; rw [hs]; dsimp only; rw [hb, show k = t_g T by omega], (RDR.rf).fp (Or.inl rfl)⟩)
    · skip
      replace c6 := mt (i_le (a := t_g T) (b := k) (by omega) (by omega)).mpr (of_decide_eq_false c6)
      refine Pv.iload rfl rfl ?_
      refine Pv.aload rfl rfl ?_
      refine Pv.iload rfl rfl ?_
      refine Pv.iload rfl rfl ?_
      refine Pv.callVI (as := [.ref 69, .int (Int32.ofNat k), .int (Int32.ofNat s)]) (rest := [.int b]) (z := m_lackr (t_a T (1 * 12 + (2 * k + s))) (h_s S (2 * k + s))) rfl rfl rfl (g_lackOf (g := k) (s := s) (w := t_a T (1 * 12 + (2 * k + s))) (x := h_s S (2 * k + s)) (hG.fx (P := fun _ => True) (((FX.rf (P := fun _ => True))).fp trivial)) (by omega) (by omega) ((fp_ne (Or.inl (by decide))).trans (hT.wa _ (by omega))) ((fp_ne (Or.inl (by decide))).trans (hS.s _ (by omega)))) ?_
      refine Pv.if0 rfl (fun c7 => ?_) (fun c7 => ?_)
      · skip
        replace c7 := of_decide_eq_true c7
        refine Pv.lit rfl ?_
        refine Pv.bin (z := b ||| 0) rfl (rfl) ?_
        refine Pv.istore (lo' := [some (.ref 69), some (.int (Int32.ofNat s)), some (.int (b ||| 0)), some (.int (Int32.ofNat k))]) rfl rfl ?_
        refine Pv.iinc (y := Int32.ofNat (k + 1)) (lo' := [some (.ref 69), some (.int (Int32.ofNat s)), some (.int (b ||| 0)), some (.int (Int32.ofNat (k + 1)))]) rfl rfl (i_add k 1) rfl ?_
        refine Pv.goto rfl ?_
        exact ih5 (k + 1, b ||| 0) (⟨by omega, by rw [m_bits_f (f := (fun g => !decide (m_lack T S (2 * g + s) ≤ 0))) (g := id) (k := k) (by have q := c7; rw [lackr_eq] at q; simp [show m_lack T S (2 * k + s) = ab_max 0 (t_a T (1 * 12 + (2 * k + s)) - h_s S (2 * k + s)) from rfl, q]), ← hb]; exact i_or0 _⟩)
      · skip
        replace c7 := of_decide_eq_false c7
        refine Pv.lit rfl ?_
        refine Pv.iload rfl rfl ?_
        refine Pv.bin (z := 1 <<< ((Int32.ofNat k) &&& 31)) rfl (rfl) ?_
        refine Pv.goto rfl ?_
        refine Pv.bin (z := b ||| (1 <<< ((Int32.ofNat k) &&& 31))) rfl (rfl) ?_
        refine Pv.istore (lo' := [some (.ref 69), some (.int (Int32.ofNat s)), some (.int (b ||| (1 <<< ((Int32.ofNat k) &&& 31)))), some (.int (Int32.ofNat k))]) rfl rfl ?_
        refine Pv.iinc (y := Int32.ofNat (k + 1)) (lo' := [some (.ref 69), some (.int (Int32.ofNat s)), some (.int (b ||| (1 <<< ((Int32.ofNat k) &&& 31)))), some (.int (Int32.ofNat (k + 1)))]) rfl rfl (i_add k 1) rfl ?_
        refine Pv.goto rfl ?_
        exact ih5 (k + 1, b ||| (1 <<< ((Int32.ofNat k) &&& 31))) (⟨by omega, by rw [m_bits_t (f := (fun g => !decide (m_lack T S (2 * g + s) ≤ 0))) (g := id) (k := k) (by have q := c7; rw [lackr_eq] at q; simp [show m_lack T S (2 * k + s) = ab_max 0 (t_a T (1 * 12 + (2 * k + s)) - h_s S (2 * k + s)) from rfl, q]), hb]; rfl⟩)
  · skip
    replace c1 : decide (b2i (nd 2 y).isSome = 0) = true := by simpa using c1
    replace c1 := of_decide_eq_true c1
    replace c1 := b2z.mp c1
    refine Pv.lit rfl ?_
    exact Pv.ret rfl (by rw [hQ]; exact ⟨by unfold a_lacks; rw [nd_f c1], (RDR.rf).fp (Or.inl rfl)⟩)
set_option maxRecDepth 100000 in
set_option maxHeartbeats 4000000 in
theorem q_falses {F : FW} {T : St} {S : Sh} (hT : XT F T) (hS : XS F (t_m T) S) (hG : GW F) (hTB : TBB T) (hSB : SB S) (hHB : HB S) (y : Int32) : Pm Z_X11_falses [.ref 69, .int y] F (fun r F' => r = some (.int (a_falses T S y)) ∧ RDR F F') := by
  refine Pm.of fun N => ?_
  obtain ⟨Q, hQ⟩ : ∃ Q : Option Value → FW → Prop, Q = (fun r F' => r = some (.int (a_falses T S y)) ∧ RDR F F') := ⟨_, rfl⟩
  rw [← hQ]
  have b3 := hT.mb
  have b4 := hT.nb
  have b5 := hT.gb
  have b6 := m_from_lt S
  have b7 := hS.db
  refine (show Pv (ab_T (L_X11_falses Z_X11_isShore Z_X11_isFalse)) N 0 [some (.ref 69), some (.int y), none, none] [] F Q from ?_)
  refine Pv.aload rfl rfl ?_
  refine Pv.lit rfl ?_
  refine Pv.putI rfl rfl ?_
  refine Pv.aload rfl rfl ?_
  refine Pv.iload rfl rfl ?_
  refine Pv.callVI (as := [.ref 69, .int y]) (rest := []) (z := b2i (nd 2 y).isSome) rfl rfl rfl (q_isShore y) ?_
  refine Pv.if0 rfl (fun c1 => ?_) (fun c1 => ?_)
  · skip
    replace c1 : decide (b2i (nd 2 y).isSome = 0) = false := by simpa using c1
    replace c1 := of_decide_eq_false c1
    replace c1 := b2n.mp c1
    obtain ⟨s, hs, hsl, rfl⟩ := nd_t c1
    refine Pv.lit rfl ?_
    refine Pv.istore (lo' := [some (.ref 69), some (.int (Int32.ofNat s)), some (.int 0), none]) rfl rfl ?_
    refine Pv.lit rfl ?_
    refine Pv.istore (lo' := [some (.ref 69), some (.int (Int32.ofNat s)), some (.int 0), some (.int 0)]) rfl rfl ?_
    refine Pv.lp (ι := Nat × Int32) (lof := fun ⟨k, b⟩ => [some (.ref 69), some (.int (Int32.ofNat s)), some (.int b), some (.int (Int32.ofNat k))]) (Ff := fun ⟨k, b⟩ => (fp F 69 0 0)) (P := fun ⟨k, b⟩ => k ≤ t_g T ∧ b = m_bits (fun g => m_false T S (2 * g + s)) id k) ?_ (0, 0) (⟨Nat.zero_le _, rfl⟩)
    rintro N2 hN3 ⟨k, b⟩ hi4 ih5
    refine (show Pv _ _ 19 [some (.ref 69), some (.int (Int32.ofNat s)), some (.int b), some (.int (Int32.ofNat k))] [] (fp F 69 0 0) Q from ?_)
    obtain ⟨hk, hb⟩ := hi4
    refine Pv.iloadS rfl rfl ?_
    refine Pv.aload rfl rfl ?_
    refine Pv.getR (v := .ref 71) rfl rfl (GW.at (a := 69) (k := 6) (b := 71) hG (by decide)) ?_
    refine Pv.lit rfl ?_
    refine Pv.ald (z := Int32.ofNat (t_g T)) rfl ((fp_ne (Or.inl (by decide))).trans (hT.g)) ?_
    refine Pv.icmp rfl (fun c6 => ?_) (fun c6 => ?_)
    · skip
      replace c6 := (i_le (a := t_g T) (b := k) (by omega) (by omega)).mp (of_decide_eq_true c6)
      refine Pv.iload rfl rfl ?_
      exact Pv.ret rfl (by rw [hQ]; exact ⟨by unfold a_falses; rw [hs]; dsimp only; rw [hb, show k = t_g T by omega], (RDR.rf).fp (Or.inl rfl)⟩)
    · skip
      replace c6 := mt (i_le (a := t_g T) (b := k) (by omega) (by omega)).mpr (of_decide_eq_false c6)
      refine Pv.iload rfl rfl ?_
      refine Pv.aload rfl rfl ?_
      refine Pv.iload rfl rfl ?_
      refine Pv.iload rfl rfl ?_
      refine Pv.callVI (as := [.ref 69, .int (Int32.ofNat k), .int (Int32.ofNat s)]) (rest := [.int b]) (z := b2i (m_falser (t_a T (1 * 12 + (2 * k + s))) (h_s S (2 * k + s)) (h_h S (2 * k + s)))) rfl rfl rfl (q_isFalse (g := k) (s := s) (w := t_a T (1 * 12 + (2 * k + s))) (x := h_s S (2 * k + s)) (y := h_h S (2 * k + s)) (hG.fx (P := fun _ => True) (((FX.rf (P := fun _ => True))).fp trivial)) (by omega) (by omega) ((fp_ne (Or.inl (by decide))).trans (hT.wa _ (by omega))) ((fp_ne (Or.inl (by decide))).trans (hS.s _ (by omega))) ((fp_ne (Or.inl (by decide))).trans (hS.h _ (by omega)))) ?_
      refine Pv.if0 rfl (fun c7 => ?_) (fun c7 => ?_)
      · skip
        replace c7 := of_decide_eq_true c7
        replace c7 := b2z.mp c7
        refine Pv.lit rfl ?_
        refine Pv.bin (z := b ||| 0) rfl (rfl) ?_
        refine Pv.istore (lo' := [some (.ref 69), some (.int (Int32.ofNat s)), some (.int (b ||| 0)), some (.int (Int32.ofNat k))]) rfl rfl ?_
        refine Pv.iinc (y := Int32.ofNat (k + 1)) (lo' := [some (.ref 69), some (.int (Int32.ofNat s)), some (.int (b ||| 0)), some (.int (Int32.ofNat (k + 1)))]) rfl rfl (i_add k 1) rfl ?_
        refine Pv.goto rfl ?_
        exact ih5 (k + 1, b ||| 0) (⟨by omega, by rw [m_bits_f (f := (fun g => m_false T S (2 * g + s))) (g := id) (k := k) (by rw [m_false_eq hTB hSB hHB b7 (by omega)]; exact c7), ← hb]; exact i_or0 _⟩)
      · skip
        replace c7 := of_decide_eq_false c7
        replace c7 := b2n.mp c7
        refine Pv.lit rfl ?_
        refine Pv.iload rfl rfl ?_
        refine Pv.bin (z := 1 <<< ((Int32.ofNat k) &&& 31)) rfl (rfl) ?_
        refine Pv.goto rfl ?_
        refine Pv.bin (z := b ||| (1 <<< ((Int32.ofNat k) &&& 31))) rfl (rfl) ?_
        refine Pv.istore (lo' := [some (.ref 69), some (.int (Int32.ofNat s)), some (.int (b ||| (1 <<< ((Int32.ofNat k) &&& 31)))), some (.int (Int32.ofNat k))]) rfl rfl ?_
        refine Pv.iinc (y := Int32.ofNat (k + 1)) (lo' := [some (.ref 69), some (.int (Int32.ofNat s)), some (.int (b ||| (1 <<< ((Int32.ofNat k) &&& 31)))), some (.int (Int32.ofNat (k + 1)))]) rfl rfl (i_add k 1) rfl ?_
        refine Pv.goto rfl ?_
        exact ih5 (k + 1, b ||| (1 <<< ((Int32.ofNat k) &&& 31))) (⟨by omega, by rw [m_bits_t (f := (fun g => m_false T S (2 * g + s))) (g := id) (k := k) (by rw [m_false_eq hTB hSB hHB b7 (by omega)]; exact c7), hb]; rfl⟩)
  · skip
    replace c1 : decide (b2i (nd 2 y).isSome = 0) = true := by simpa using c1
    replace c1 := of_decide_eq_true c1
    replace c1 := b2z.mp c1
    refine Pv.lit rfl ?_
    exact Pv.ret rfl (by rw [hQ]; exact ⟨by unfold a_falses; rw [nd_f c1], (RDR.rf).fp (Or.inl rfl)⟩)
set_option maxRecDepth 100000 in
set_option maxHeartbeats 4000000 in
theorem q_hoarded {F : FW} {T : St} {S : Sh} (hT : XT F T) (hS : XS F (t_m T) S) (hG : GW F) (y : Int32) : Pm Z_X11_hoarded [.ref 69, .int y] F (fun r F' => r = some (.int (a_hoarded T S y)) ∧ RDR F F') := by
  refine Pm.of fun N => ?_
  obtain ⟨Q, hQ⟩ : ∃ Q : Option Value → FW → Prop, Q = (fun r F' => r = some (.int (a_hoarded T S y)) ∧ RDR F F') := ⟨_, rfl⟩
  rw [← hQ]
  have b3 := hT.mb
  have b4 := hT.nb
  have b5 := hT.gb
  have b6 := m_from_lt S
  have b7 := hS.db
  refine (show Pv (ab_T (L_X11_hoarded Z_X11_isShore Z_X11_cell)) N 0 [some (.ref 69), some (.int y), none, none, none] [] F Q from ?_)
  refine Pv.aload rfl rfl ?_
  refine Pv.lit rfl ?_
  refine Pv.putI rfl rfl ?_
  refine Pv.aload rfl rfl ?_
  refine Pv.iload rfl rfl ?_
  refine Pv.callVI (as := [.ref 69, .int y]) (rest := []) (z := b2i (nd 2 y).isSome) rfl rfl rfl (q_isShore y) ?_
  refine Pv.if0 rfl (fun c1 => ?_) (fun c1 => ?_)
  · skip
    replace c1 : decide (b2i (nd 2 y).isSome = 0) = false := by simpa using c1
    replace c1 := of_decide_eq_false c1
    replace c1 := b2n.mp c1
    obtain ⟨s, hs, hsl, rfl⟩ := nd_t c1
    refine Pv.lit rfl ?_
    refine Pv.istore (lo' := [some (.ref 69), some (.int (Int32.ofNat s)), some (.int (-1)), none, none]) rfl rfl ?_
    refine Pv.lit rfl ?_
    refine Pv.istore (lo' := [some (.ref 69), some (.int (Int32.ofNat s)), some (.int (-1)), some (.int 0), none]) rfl rfl ?_
    refine Pv.lit rfl ?_
    refine Pv.istore (lo' := [some (.ref 69), some (.int (Int32.ofNat s)), some (.int (-1)), some (.int 0), some (.int 0)]) rfl rfl ?_
    refine Pv.lp (ι := Nat × Int32 × Int32) (lof := fun ⟨k, b, e⟩ => [some (.ref 69), some (.int (Int32.ofNat s)), some (.int e), some (.int b), some (.int (Int32.ofNat k))]) (Ff := fun ⟨k, b, e⟩ => (fp F 69 0 0)) (P := fun ⟨k, b, e⟩ => k ≤ t_g T ∧ (b, e) = m_top (fun g => h_h S (2 * g + s)) k) ?_ (0, 0, (-1)) (⟨Nat.zero_le _, rfl⟩)
    rintro N2 hN3 ⟨k, b, e⟩ hi4 ih5
    refine (show Pv _ _ 22 [some (.ref 69), some (.int (Int32.ofNat s)), some (.int e), some (.int b), some (.int (Int32.ofNat k))] [] (fp F 69 0 0) Q from ?_)
    obtain ⟨hk, hb⟩ := hi4
    refine Pv.iloadS rfl rfl ?_
    refine Pv.aload rfl rfl ?_
    refine Pv.getR (v := .ref 71) rfl rfl (GW.at (a := 69) (k := 6) (b := 71) hG (by decide)) ?_
    refine Pv.lit rfl ?_
    refine Pv.ald (z := Int32.ofNat (t_g T)) rfl ((fp_ne (Or.inl (by decide))).trans (hT.g)) ?_
    refine Pv.icmp rfl (fun c6 => ?_) (fun c6 => ?_)
    · skip
      replace c6 := (i_le (a := t_g T) (b := k) (by omega) (by omega)).mp (of_decide_eq_true c6)
      refine Pv.iload rfl rfl ?_
      exact Pv.ret rfl (by rw [hQ]; exact ⟨by unfold a_hoarded; rw [hs]; dsimp only; rw [show t_g T = k by omega, ← hb], (RDR.rf).fp (Or.inl rfl)⟩)
    · skip
      replace c6 := mt (i_le (a := t_g T) (b := k) (by omega) (by omega)).mpr (of_decide_eq_false c6)
      refine Pv.aload rfl rfl ?_
      refine Pv.getR (v := .ref 71) rfl rfl (GW.at (a := 69) (k := 6) (b := 71) hG (by decide)) ?_
      refine Pv.lit rfl ?_
      refine Pv.iload rfl rfl ?_
      refine Pv.iload rfl rfl ?_
      refine Pv.callI (as := [.int (Int32.ofNat k), .int (Int32.ofNat s)]) (rest := [.int 136, .ref 71]) (z := Int32.ofNat (2 * k + s)) rfl rfl rfl (g_cell (g := k) (s := s)) ?_
      refine Pv.bin (z := Int32.ofNat (136 + (2 * k + s))) rfl (i_add 136 (2 * k + s)) ?_
      refine Pv.ald (z := h_h S (2 * k + s)) rfl (by rw [i_toNat (by omega)]; exact (fp_ne (Or.inl (by decide))).trans (hS.h _ (by omega))) ?_
      refine Pv.iload rfl rfl ?_
      refine Pv.icmp rfl (fun c7 => ?_) (fun c7 => ?_)
      · skip
        replace c7 := of_decide_eq_true c7
        refine Pv.aload rfl rfl ?_
        refine Pv.getR (v := .ref 71) rfl rfl (GW.at (a := 69) (k := 6) (b := 71) hG (by decide)) ?_
        refine Pv.lit rfl ?_
        refine Pv.iload rfl rfl ?_
        refine Pv.iload rfl rfl ?_
        refine Pv.callI (as := [.int (Int32.ofNat k), .int (Int32.ofNat s)]) (rest := [.int 136, .ref 71]) (z := Int32.ofNat (2 * k + s)) rfl rfl rfl (g_cell (g := k) (s := s)) ?_
        refine Pv.bin (z := Int32.ofNat (136 + (2 * k + s))) rfl (i_add 136 (2 * k + s)) ?_
        refine Pv.ald (z := h_h S (2 * k + s)) rfl (by rw [i_toNat (by omega)]; exact (fp_ne (Or.inl (by decide))).trans (hS.h _ (by omega))) ?_
        refine Pv.istore (lo' := [some (.ref 69), some (.int (Int32.ofNat s)), some (.int e), some (.int (h_h S (2 * k + s))), some (.int (Int32.ofNat k))]) rfl rfl ?_
        refine Pv.iload rfl rfl ?_
        refine Pv.istore (lo' := [some (.ref 69), some (.int (Int32.ofNat s)), some (.int (Int32.ofNat k)), some (.int (h_h S (2 * k + s))), some (.int (Int32.ofNat k))]) rfl rfl ?_
        refine Pv.iinc (y := Int32.ofNat (k + 1)) (lo' := [some (.ref 69), some (.int (Int32.ofNat s)), some (.int (Int32.ofNat k)), some (.int (h_h S (2 * k + s))), some (.int (Int32.ofNat (k + 1)))]) rfl rfl (i_add k 1) rfl ?_
        refine Pv.goto rfl ?_
        exact ih5 (k + 1, h_h S (2 * k + s), Int32.ofNat k) (⟨by omega, by show _ = (if _ then _ else _ : Int32 × Int32); rw [if_neg (by rw [← hb]; exact (fun q => absurd (Int32.not_lt.mpr q) (fun n => n c7)))]⟩)
      · skip
        replace c7 := of_decide_eq_false c7
        refine Pv.goto rfl ?_
        refine Pv.iinc (y := Int32.ofNat (k + 1)) (lo' := [some (.ref 69), some (.int (Int32.ofNat s)), some (.int e), some (.int b), some (.int (Int32.ofNat (k + 1)))]) rfl rfl (i_add k 1) rfl ?_
        refine Pv.goto rfl ?_
        exact ih5 (k + 1, b, e) (⟨by omega, by show _ = (if _ then _ else _ : Int32 × Int32); rw [if_pos (by rw [← hb]; exact Int32.not_lt.mp c7)]; exact hb⟩)
  · skip
    replace c1 : decide (b2i (nd 2 y).isSome = 0) = true := by simpa using c1
    replace c1 := of_decide_eq_true c1
    replace c1 := b2z.mp c1
    refine Pv.lit rfl ?_
    exact Pv.ret rfl (by rw [hQ]; exact ⟨by unfold a_hoarded; rw [nd_f c1], (RDR.rf).fp (Or.inl rfl)⟩)
set_option maxRecDepth 100000 in
set_option maxHeartbeats 4000000 in
theorem q_bits {F : FW} (v : Nat) (hv : v < 256) : Pm Z_X11_bits [.int (Int32.ofNat v)] F (fun r F' => r = some (.int (rbits 257 (Int32.ofNat v))) ∧ F' = F) := by
  refine Pm.of fun N => ?_
  obtain ⟨Q, hQ⟩ : ∃ Q : Option Value → FW → Prop, Q = (fun r F' => r = some (.int (rbits 257 (Int32.ofNat v))) ∧ F' = F) := ⟨_, rfl⟩
  rw [← hQ]
  refine (show Pv (ab_T L_X11_bits) N 0 [some (.int (Int32.ofNat v)), none, none] [] F Q from ?_)
  refine Pv.lit rfl ?_
  refine Pv.istore (lo' := [some (.int (Int32.ofNat v)), some (.int 0), none]) rfl rfl ?_
  refine Pv.iload rfl rfl ?_
  refine Pv.istore (lo' := [some (.int (Int32.ofNat v)), some (.int 0), some (.int (Int32.ofNat v))]) rfl rfl ?_
  refine Pv.lp (ι := Nat × Int32 × Nat) (lof := fun ⟨k, b, n⟩ => [some (.int (Int32.ofNat v)), some (.int b), some (.int (Int32.ofNat k))]) (Ff := fun ⟨k, b, n⟩ => F) (P := fun ⟨k, b, n⟩ => k < n ∧ k < 256 ∧ rbits 257 (Int32.ofNat v) = rbits n (Int32.ofNat k) + b) ?_ (v, 0, 257) (⟨by omega, hv, (Int32.add_zero _).symm⟩)
  rintro N1 hN2 ⟨k, b, n⟩ hi3 ih4
  refine (show Pv _ _ 4 [some (.int (Int32.ofNat v)), some (.int b), some (.int (Int32.ofNat k))] [] F Q from ?_)
  obtain ⟨hn, hk, he⟩ := hi3
  refine Pv.iloadS rfl rfl ?_
  refine Pv.if0 rfl (fun c5 => ?_) (fun c5 => ?_)
  · skip
    replace c5 := (i_eq (a := k) (b := 0) (by omega) (by omega)).mp (of_decide_eq_true c5)
    refine Pv.iload rfl rfl ?_
    exact Pv.ret rfl (by rw [hQ]; exact ⟨by rw [he, rb_0 (by omega), Int32.zero_add], rfl⟩)
  · skip
    replace c5 := mt (i_eq (a := k) (b := 0) (by omega) (by omega)).mpr (of_decide_eq_false c5)
    refine Pv.iinc (y := b + 1) (lo' := [some (.int (Int32.ofNat v)), some (.int (b + 1)), some (.int (Int32.ofNat k))]) rfl rfl (rfl) rfl ?_
    refine Pv.iload rfl rfl ?_
    refine Pv.iload rfl rfl ?_
    refine Pv.lit rfl ?_
    refine Pv.bin (z := (Int32.ofNat k) - 1) rfl (rfl) ?_
    refine Pv.bin (z := Int32.ofNat (bk k)) rfl ((bk_ok k hk c5).1) ?_
    refine Pv.istore (lo' := [some (.int (Int32.ofNat v)), some (.int (b + 1)), some (.int (Int32.ofNat (bk k)))]) rfl rfl ?_
    refine Pv.goto rfl ?_
    exact ih4 (bk k, b + 1, (n - 1)) (rb_step hn hk he c5)
set_option maxRecDepth 100000 in
set_option maxHeartbeats 4000000 in
theorem q_dearest {F : FW} {T : St} {S : Sh} (hT : XT F T) (hS : XS F (t_m T) S) (hG : GW F) : Pm Z_X11_dearest [.ref 69] F (fun r F' => r = some (.int (a_dearest T S)) ∧ RDR F F') := by
  refine Pm.of fun N => ?_
  obtain ⟨Q, hQ⟩ : ∃ Q : Option Value → FW → Prop, Q = (fun r F' => r = some (.int (a_dearest T S)) ∧ RDR F F') := ⟨_, rfl⟩
  rw [← hQ]
  have b3 := hT.mb
  have b4 := hT.nb
  have b5 := hT.gb
  have b6 := m_from_lt S
  have b7 := hS.db
  refine (show Pv (ab_T (L_X11_dearest Z_X11_missedBy Z_X11_bits)) N 0 [some (.ref 69), none, none, none] [] F Q from ?_)
  refine Pv.aload rfl rfl ?_
  refine Pv.lit rfl ?_
  refine Pv.putI rfl rfl ?_
  refine Pv.lit rfl ?_
  refine Pv.istore (lo' := [some (.ref 69), some (.int (-1)), none, none]) rfl rfl ?_
  refine Pv.lit rfl ?_
  refine Pv.istore (lo' := [some (.ref 69), some (.int (-1)), some (.int 0), none]) rfl rfl ?_
  refine Pv.lit rfl ?_
  refine Pv.istore (lo' := [some (.ref 69), some (.int (-1)), some (.int 0), some (.int 0)]) rfl rfl ?_
  refine Pv.lp (ι := Nat × Int32 × Int32) (lof := fun ⟨k, b, e⟩ => [some (.ref 69), some (.int e), some (.int b), some (.int (Int32.ofNat k))]) (Ff := fun ⟨k, b, e⟩ => (fp F 69 0 0)) (P := fun ⟨k, b, e⟩ => k ≤ t_m T ∧ (b, e) = m_top (fun m => jbc (m_missers T S m)) k) ?_ (0, 0, (-1)) (⟨Nat.zero_le _, rfl⟩)
  rintro N1 hN2 ⟨k, b, e⟩ hi3 ih4
  refine (show Pv _ _ 11 [some (.ref 69), some (.int e), some (.int b), some (.int (Int32.ofNat k))] [] (fp F 69 0 0) Q from ?_)
  obtain ⟨hk, hb⟩ := hi3
  refine Pv.iloadS rfl rfl ?_
  refine Pv.aload rfl rfl ?_
  refine Pv.getR (v := .ref 71) rfl rfl (GW.at (a := 69) (k := 6) (b := 71) hG (by decide)) ?_
  refine Pv.lit rfl ?_
  refine Pv.ald (z := Int32.ofNat (t_m T)) rfl ((fp_ne (Or.inl (by decide))).trans (hT.m)) ?_
  refine Pv.icmp rfl (fun c5 => ?_) (fun c5 => ?_)
  · skip
    replace c5 := (i_le (a := t_m T) (b := k) (by omega) (by omega)).mp (of_decide_eq_true c5)
    refine Pv.iload rfl rfl ?_
    exact Pv.ret rfl (by rw [hQ]; exact ⟨by unfold a_dearest; rw [show t_m T = k by omega, ← hb], (RDR.rf).fp (Or.inl rfl)⟩)
  · skip
    replace c5 := mt (i_le (a := t_m T) (b := k) (by omega) (by omega)).mpr (of_decide_eq_false c5)
    refine Pv.aload rfl rfl ?_
    refine Pv.iload rfl rfl ?_
    refine Pv.callVI (as := [.ref 69, .int (Int32.ofNat k)]) (rest := []) (z := m_bits (fun m => m_does T S m k) id (t_m T)) rfl rfl rfl (g_missedBy (o := k) (hT.fx (P := fun q => q = 69) (((FX.rf (P := fun q => q = 69))).fp rfl) (by decide)) (hS.fx (P := fun q => q = 69) b3 (((FX.rf (P := fun q => q = 69))).fp rfl) (by decide)) (hG.fx (P := fun _ => True) (((FX.rf (P := fun _ => True))).fp trivial)) (by omega)) ?_
    obtain ⟨v6, hv6, ev6⟩ := missers_small (T := T) (S := S) hT.w k
    rw [show (m_bits (fun m => m_does T S m k) id (t_m T)) = Int32.ofNat v6 from (m_missers_eq hT.w).trans ev6]
    refine Pv.callI (as := [.int (Int32.ofNat v6)]) (rest := []) (z := rbits 257 (Int32.ofNat v6)) rfl rfl rfl (q_bits v6 (by omega)) ?_
    rw [show rbits 257 (Int32.ofNat v6) = jbc (m_missers T S k) from by rw [ev6]; exact (jbc_rb v6 hv6).symm]
    refine Pv.iload rfl rfl ?_
    refine Pv.icmp rfl (fun c7 => ?_) (fun c7 => ?_)
    · skip
      replace c7 := of_decide_eq_true c7
      refine Pv.aload rfl rfl ?_
      refine Pv.iload rfl rfl ?_
      refine Pv.callVI (as := [.ref 69, .int (Int32.ofNat k)]) (rest := []) (z := m_bits (fun m => m_does T S m k) id (t_m T)) rfl rfl rfl (g_missedBy (o := k) (hT.fx (P := fun q => q = 69) (((FX.rf (P := fun q => q = 69))).fp rfl) (by decide)) (hS.fx (P := fun q => q = 69) b3 (((FX.rf (P := fun q => q = 69))).fp rfl) (by decide)) (hG.fx (P := fun _ => True) (((FX.rf (P := fun _ => True))).fp trivial)) (by omega)) ?_
      obtain ⟨v8, hv8, ev8⟩ := missers_small (T := T) (S := S) hT.w k
      rw [show (m_bits (fun m => m_does T S m k) id (t_m T)) = Int32.ofNat v8 from (m_missers_eq hT.w).trans ev8]
      refine Pv.callI (as := [.int (Int32.ofNat v8)]) (rest := []) (z := rbits 257 (Int32.ofNat v8)) rfl rfl rfl (q_bits v8 (by omega)) ?_
      rw [show rbits 257 (Int32.ofNat v8) = jbc (m_missers T S k) from by rw [ev8]; exact (jbc_rb v8 hv8).symm]
      refine Pv.istore (lo' := [some (.ref 69), some (.int e), some (.int (jbc (m_missers T S k))), some (.int (Int32.ofNat k))]) rfl rfl ?_
      refine Pv.iload rfl rfl ?_
      refine Pv.istore (lo' := [some (.ref 69), some (.int (Int32.ofNat k)), some (.int (jbc (m_missers T S k))), some (.int (Int32.ofNat k))]) rfl rfl ?_
      refine Pv.iinc (y := Int32.ofNat (k + 1)) (lo' := [some (.ref 69), some (.int (Int32.ofNat k)), some (.int (jbc (m_missers T S k))), some (.int (Int32.ofNat (k + 1)))]) rfl rfl (i_add k 1) rfl ?_
      refine Pv.goto rfl ?_
      exact ih4 (k + 1, jbc (m_missers T S k), Int32.ofNat k) (⟨by omega, by show _ = (if _ then _ else _ : Int32 × Int32); rw [if_neg (by rw [← hb]; exact Int32.not_le.mpr c7)]⟩)
    · skip
      replace c7 := of_decide_eq_false c7
      refine Pv.goto rfl ?_
      refine Pv.iinc (y := Int32.ofNat (k + 1)) (lo' := [some (.ref 69), some (.int e), some (.int b), some (.int (Int32.ofNat (k + 1)))]) rfl rfl (i_add k 1) rfl ?_
      refine Pv.goto rfl ?_
      exact ih4 (k + 1, b, e) (⟨by omega, by show _ = (if _ then _ else _ : Int32 × Int32); rw [if_pos (by rw [← hb]; exact Int32.not_lt.mp c7)]; exact hb⟩)
set_option maxRecDepth 100000 in
set_option maxHeartbeats 4000000 in
theorem q_menOn {F : FW} {T : St} {S : Sh} (hT : XT F T) (hS : XS F (t_m T) S) (hG : GW F) (x : Int32) (hx : ¬ (-1 : Int32) = x) : Pm Z_X11_menOn [.ref 69, .int x] F (fun r F' => r = some (.int (m_men T S x)) ∧ F' = F) := by
  refine Pm.of fun N => ?_
  obtain ⟨Q, hQ⟩ : ∃ Q : Option Value → FW → Prop, Q = (fun r F' => r = some (.int (m_men T S x)) ∧ F' = F) := ⟨_, rfl⟩
  rw [← hQ]
  have b3 := hT.mb
  have b4 := hT.nb
  have b5 := hT.gb
  have b6 := m_from_lt S
  have b7 := hS.db
  refine (show Pv (ab_T (L_X11_menOn Z_X11_isDead)) N 0 [some (.ref 69), some (.int x), none, none] [] F Q from ?_)
  refine Pv.lit rfl ?_
  refine Pv.istore (lo' := [some (.ref 69), some (.int x), some (.int 0), none]) rfl rfl ?_
  refine Pv.lit rfl ?_
  refine Pv.istore (lo' := [some (.ref 69), some (.int x), some (.int 0), some (.int 0)]) rfl rfl ?_
  refine Pv.lp (ι := Nat × Int32) (lof := fun ⟨k, b⟩ => [some (.ref 69), some (.int x), some (.int b), some (.int (Int32.ofNat k))]) (Ff := fun ⟨k, b⟩ => F) (P := fun ⟨k, b⟩ => k ≤ t_m T ∧ b = m_bits (fun m => decide (h_a S m = x)) id k) ?_ (0, 0) (⟨Nat.zero_le _, rfl⟩)
  rintro N1 hN2 ⟨k, b⟩ hi3 ih4
  refine (show Pv _ _ 4 [some (.ref 69), some (.int x), some (.int b), some (.int (Int32.ofNat k))] [] F Q from ?_)
  obtain ⟨hk, hb⟩ := hi3
  refine Pv.iloadS rfl rfl ?_
  refine Pv.aload rfl rfl ?_
  refine Pv.getR (v := .ref 71) rfl rfl (GW.at (a := 69) (k := 6) (b := 71) hG (by decide)) ?_
  refine Pv.lit rfl ?_
  refine Pv.ald (z := Int32.ofNat (t_m T)) rfl (hT.m) ?_
  refine Pv.icmp rfl (fun c5 => ?_) (fun c5 => ?_)
  · skip
    replace c5 := (i_le (a := t_m T) (b := k) (by omega) (by omega)).mp (of_decide_eq_true c5)
    refine Pv.iload rfl rfl ?_
    exact Pv.ret rfl (by rw [hQ]; exact ⟨by rw [hb, show k = t_m T by omega]; rfl, rfl⟩)
  · skip
    replace c5 := mt (i_le (a := t_m T) (b := k) (by omega) (by omega)).mpr (of_decide_eq_false c5)
    refine Pv.iload rfl rfl ?_
    refine Pv.aload rfl rfl ?_
    refine Pv.iload rfl rfl ?_
    refine Pv.callVI (as := [.ref 69, .int (Int32.ofNat k)]) (rest := [.int b]) (z := b2i (!m_alive S k)) rfl rfl rfl (g_isDead (o := 0) (m := k) hS.xd hG (by omega)) ?_
    refine Pv.if0 rfl (fun c6 => ?_) (fun c6 => ?_)
    · skip
      replace c6 : decide (b2i (!m_alive S k) = 0) = false := by simpa using c6
      replace c6 := of_decide_eq_false c6
      replace c6 := b2n.mp c6
      refine Pv.lit rfl ?_
      refine Pv.bin (z := b ||| 0) rfl (rfl) ?_
      refine Pv.istore (lo' := [some (.ref 69), some (.int x), some (.int (b ||| 0)), some (.int (Int32.ofNat k))]) rfl rfl ?_
      refine Pv.iinc (y := Int32.ofNat (k + 1)) (lo' := [some (.ref 69), some (.int x), some (.int (b ||| 0)), some (.int (Int32.ofNat (k + 1)))]) rfl rfl (i_add k 1) rfl ?_
      refine Pv.goto rfl ?_
      exact ih4 (k + 1, b ||| 0) (⟨by omega, by rw [m_bits_f (f := (fun m => decide (h_a S m = x))) (g := id) (k := k) (by have q := c6; simp at q; have q2 := m_alive_n q; simp [q2, hx]), ← hb]; exact i_or0 _⟩)
    · skip
      replace c6 : decide (b2i (!m_alive S k) = 0) = true := by simpa using c6
      replace c6 := of_decide_eq_true c6
      replace c6 := b2z.mp c6
      have a1 : m_alive S k = true := by simpa using c6
      refine Pv.aload rfl rfl ?_
      refine Pv.getR (v := .ref 71) rfl rfl (GW.at (a := 69) (k := 6) (b := 71) hG (by decide)) ?_
      refine Pv.lit rfl ?_
      refine Pv.iload rfl rfl ?_
      refine Pv.bin (z := Int32.ofNat (172 + k)) rfl (i_add 172 k) ?_
      refine Pv.ald (z := h_a S k) rfl (by rw [i_toNat (by omega)]; exact hS.a (by omega) a1) ?_
      refine Pv.iload rfl rfl ?_
      refine Pv.icmp rfl (fun c7 => ?_) (fun c7 => ?_)
      · skip
        replace c7 : decide (h_a S k = x) = false := by simpa using c7
        replace c7 := of_decide_eq_false c7
        refine Pv.lit rfl ?_
        refine Pv.bin (z := b ||| 0) rfl (rfl) ?_
        refine Pv.istore (lo' := [some (.ref 69), some (.int x), some (.int (b ||| 0)), some (.int (Int32.ofNat k))]) rfl rfl ?_
        refine Pv.iinc (y := Int32.ofNat (k + 1)) (lo' := [some (.ref 69), some (.int x), some (.int (b ||| 0)), some (.int (Int32.ofNat (k + 1)))]) rfl rfl (i_add k 1) rfl ?_
        refine Pv.goto rfl ?_
        exact ih4 (k + 1, b ||| 0) (⟨by omega, by rw [m_bits_f (f := (fun m => decide (h_a S m = x))) (g := id) (k := k) (by simp [c7]), ← hb]; exact i_or0 _⟩)
      · skip
        replace c7 : decide (h_a S k = x) = true := by simpa using c7
        replace c7 := of_decide_eq_true c7
        refine Pv.lit rfl ?_
        refine Pv.iload rfl rfl ?_
        refine Pv.bin (z := 1 <<< ((Int32.ofNat k) &&& 31)) rfl (rfl) ?_
        refine Pv.goto rfl ?_
        refine Pv.bin (z := b ||| (1 <<< ((Int32.ofNat k) &&& 31))) rfl (rfl) ?_
        refine Pv.istore (lo' := [some (.ref 69), some (.int x), some (.int (b ||| (1 <<< ((Int32.ofNat k) &&& 31)))), some (.int (Int32.ofNat k))]) rfl rfl ?_
        refine Pv.iinc (y := Int32.ofNat (k + 1)) (lo' := [some (.ref 69), some (.int x), some (.int (b ||| (1 <<< ((Int32.ofNat k) &&& 31)))), some (.int (Int32.ofNat (k + 1)))]) rfl rfl (i_add k 1) rfl ?_
        refine Pv.goto rfl ?_
        exact ih4 (k + 1, b ||| (1 <<< ((Int32.ofNat k) &&& 31))) (⟨by omega, by rw [m_bits_t (f := (fun m => decide (h_a S m = x))) (g := id) (k := k) (by simp [c7]), hb]; rfl⟩)
set_option maxRecDepth 100000 in
set_option maxHeartbeats 4000000 in
theorem q_now {F : FW} {T : St} {S : Sh} (hT : XT F T) (hS : XS F (t_m T) S) (hG : GW F) (w : Int32) : Pm Z_X11_now [.ref 69, .int w] F (fun r F' => r = some (.int (a_now T S w)) ∧ RDR F F') := by
  refine Pm.of fun N => ?_
  obtain ⟨Q, hQ⟩ : ∃ Q : Option Value → FW → Prop, Q = (fun r F' => r = some (.int (a_now T S w)) ∧ RDR F F') := ⟨_, rfl⟩
  rw [← hQ]
  have b3 := hT.mb
  have b4 := hT.nb
  have b5 := hT.gb
  have b6 := m_from_lt S
  have b7 := hS.db
  refine (show Pv (ab_T (L_X11_now Z_X11_menOn)) N 0 [some (.ref 69), some (.int w)] [] F Q from ?_)
  refine Pv.aload rfl rfl ?_
  refine Pv.lit rfl ?_
  refine Pv.putI rfl rfl ?_
  refine Pv.iload rfl rfl ?_
  rcases nd_7 w with rfl | rfl | rfl | rfl | rfl | rfl | rfl | hw
  · refine Pv.tab (t := 48) rfl rfl ?_
    refine Pv.aload rfl rfl ?_
    refine Pv.getR (v := .ref 71) rfl rfl (GW.at (a := 69) (k := 6) (b := 71) hG (by decide)) ?_
    refine Pv.lit rfl ?_
    refine Pv.ald (z := Int32.ofNat (h_d S)) rfl ((fp_ne (Or.inl (by decide))).trans (hS.d)) ?_
    exact Pv.ret rfl (by rw [hQ]; exact ⟨rfl, (RDR.rf).fp (Or.inl rfl)⟩)
  · refine Pv.tab (t := 56) rfl rfl ?_
    refine Pv.aload rfl rfl ?_
    refine Pv.getR (v := .ref 71) rfl rfl (GW.at (a := 69) (k := 6) (b := 71) hG (by decide)) ?_
    refine Pv.lit rfl ?_
    refine Pv.ald (z := Int32.ofNat (h_d S)) rfl ((fp_ne (Or.inl (by decide))).trans (hS.d)) ?_
    refine Pv.lit rfl ?_
    refine Pv.irem (z := Int32.ofNat ((h_d S) % 2)) rfl (i_rem2 (by omega)) ?_
    exact Pv.ret rfl (by rw [hQ]; exact ⟨rfl, (RDR.rf).fp (Or.inl rfl)⟩)
  · refine Pv.tab (t := 66) rfl rfl ?_
    refine Pv.aload rfl rfl ?_
    refine Pv.lit rfl ?_
    refine Pv.callVI (as := [.ref 69, .int 0]) (rest := []) (z := m_men T S 0) rfl rfl rfl (q_menOn (hT.fx (P := fun q => q = 69) (((FX.rf (P := fun q => q = 69))).fp rfl) (by decide)) (hS.fx (P := fun q => q = 69) b3 (((FX.rf (P := fun q => q = 69))).fp rfl) (by decide)) (hG.fx (P := fun _ => True) (((FX.rf (P := fun _ => True))).fp trivial)) 0 (by decide)) ?_
    exact Pv.ret rfl (by rw [hQ]; exact ⟨rfl, (RDR.rf).fp (Or.inl rfl)⟩)
  · refine Pv.tab (t := 72) rfl rfl ?_
    refine Pv.aload rfl rfl ?_
    refine Pv.lit rfl ?_
    refine Pv.callVI (as := [.ref 69, .int 1]) (rest := []) (z := m_men T S 1) rfl rfl rfl (q_menOn (hT.fx (P := fun q => q = 69) (((FX.rf (P := fun q => q = 69))).fp rfl) (by decide)) (hS.fx (P := fun q => q = 69) b3 (((FX.rf (P := fun q => q = 69))).fp rfl) (by decide)) (hG.fx (P := fun _ => True) (((FX.rf (P := fun _ => True))).fp trivial)) 1 (by decide)) ?_
    exact Pv.ret rfl (by rw [hQ]; exact ⟨rfl, (RDR.rf).fp (Or.inl rfl)⟩)
  · refine Pv.tab (t := 78) rfl rfl ?_
    refine Pv.aload rfl rfl ?_
    refine Pv.getR (v := .ref 71) rfl rfl (GW.at (a := 69) (k := 6) (b := 71) hG (by decide)) ?_
    refine Pv.lit rfl ?_
    refine Pv.ald (z := h_i S) rfl ((fp_ne (Or.inl (by decide))).trans (hS.i)) ?_
    exact Pv.ret rfl (by rw [hQ]; exact ⟨rfl, (RDR.rf).fp (Or.inl rfl)⟩)
  · refine Pv.tab (t := 86) rfl rfl ?_
    refine Pv.aload rfl rfl ?_
    refine Pv.getR (v := .ref 71) rfl rfl (GW.at (a := 69) (k := 6) (b := 71) hG (by decide)) ?_
    refine Pv.lit rfl ?_
    refine Pv.ald (z := h_r S) rfl ((fp_ne (Or.inl (by decide))).trans (hS.r)) ?_
    exact Pv.ret rfl (by rw [hQ]; exact ⟨rfl, (RDR.rf).fp (Or.inl rfl)⟩)
  · refine Pv.tab (t := 94) rfl rfl ?_
    refine Pv.aload rfl rfl ?_
    refine Pv.getR (v := .ref 71) rfl rfl (GW.at (a := 69) (k := 6) (b := 71) hG (by decide)) ?_
    refine Pv.lit rfl ?_
    refine Pv.ald (z := m_sum (h_u S) 12) rfl ((fp_ne (Or.inl (by decide))).trans (hS.st)) ?_
    exact Pv.ret rfl (by rw [hQ]; exact ⟨rfl, (RDR.rf).fp (Or.inl rfl)⟩)
  · refine Pv.tab (t := 102) rfl (nd_tab hw (by decide)) ?_
    refine Pv.lit rfl ?_
    exact Pv.ret rfl (by rw [hQ]; exact ⟨by unfold a_now; rw [hw], (RDR.rf).fp (Or.inl rfl)⟩)
set_option maxRecDepth 100000 in
set_option maxHeartbeats 4000000 in
theorem q_apart {F : FW} {T : St} {S : Sh} (hT : XT F T) (hS : XS F (t_m T) S) (hG : GW F) (x y : Int32) : Pm Z_X11_apart [.ref 69, .int x, .int y] F (fun r F' => r = some (.int (a_apart T S x y)) ∧ RDR F F') := by
  refine Pm.of fun N => ?_
  obtain ⟨Q, hQ⟩ : ∃ Q : Option Value → FW → Prop, Q = (fun r F' => r = some (.int (a_apart T S x y)) ∧ RDR F F') := ⟨_, rfl⟩
  rw [← hQ]
  have b3 := hT.mb
  have b4 := hT.nb
  have b5 := hT.gb
  have b6 := m_from_lt S
  have b7 := hS.db
  refine (show Pv (ab_T (L_X11_apart Z_X11_isMan Z_X11_isDead)) N 0 [some (.ref 69), some (.int x), some (.int y)] [] F Q from ?_)
  refine Pv.aload rfl rfl ?_
  refine Pv.lit rfl ?_
  refine Pv.putI rfl rfl ?_
  refine Pv.aload rfl rfl ?_
  refine Pv.iload rfl rfl ?_
  refine Pv.callVI (as := [.ref 69, .int x]) (rest := []) (z := b2i (nd (t_m T) x).isSome) rfl rfl rfl (q_isMan (hT.fx (P := fun q => q = 69) (((FX.rf (P := fun q => q = 69))).fp rfl) (by decide)) (hG.fx (P := fun _ => True) (((FX.rf (P := fun _ => True))).fp trivial)) x) ?_
  refine Pv.if0 rfl (fun c1 => ?_) (fun c1 => ?_)
  · skip
    replace c1 := of_decide_eq_true c1
    replace c1 := b2z.mp c1
    refine Pv.lit rfl ?_
    exact Pv.ret rfl (by rw [hQ]; exact ⟨by unfold a_apart liv2; rw [nd_f c1], (RDR.rf).fp (Or.inl rfl)⟩)
  · skip
    replace c1 := of_decide_eq_false c1
    replace c1 := b2n.mp c1
    obtain ⟨m, hm, hml, rfl⟩ := nd_t c1
    refine Pv.aload rfl rfl ?_
    refine Pv.iload rfl rfl ?_
    refine Pv.callVI (as := [.ref 69, .int y]) (rest := []) (z := b2i (nd (t_m T) y).isSome) rfl rfl rfl (q_isMan (hT.fx (P := fun q => q = 69) (((FX.rf (P := fun q => q = 69))).fp rfl) (by decide)) (hG.fx (P := fun _ => True) (((FX.rf (P := fun _ => True))).fp trivial)) y) ?_
    refine Pv.if0 rfl (fun c2 => ?_) (fun c2 => ?_)
    · skip
      replace c2 := of_decide_eq_true c2
      replace c2 := b2z.mp c2
      refine Pv.lit rfl ?_
      exact Pv.ret rfl (by rw [hQ]; exact ⟨by unfold a_apart liv2; rw [hm]; dsimp only; rw [nd_f c2], (RDR.rf).fp (Or.inl rfl)⟩)
    · skip
      replace c2 := of_decide_eq_false c2
      replace c2 := b2n.mp c2
      obtain ⟨o, ho, hol, rfl⟩ := nd_t c2
      refine Pv.iload rfl rfl ?_
      refine Pv.iload rfl rfl ?_
      refine Pv.icmp rfl (fun c3 => ?_) (fun c3 => ?_)
      · skip
        replace c3 := (i_eq (a := m) (b := o) (by omega) (by omega)).mp (of_decide_eq_true c3)
        refine Pv.lit rfl ?_
        exact Pv.ret rfl (by rw [hQ]; exact ⟨by unfold a_apart liv2; rw [hm]; dsimp only; rw [ho]; dsimp only; rw [if_neg (fun q => q.1 c3)], (RDR.rf).fp (Or.inl rfl)⟩)
      · skip
        replace c3 := mt (i_eq (a := m) (b := o) (by omega) (by omega)).mpr (of_decide_eq_false c3)
        refine Pv.aload rfl rfl ?_
        refine Pv.iload rfl rfl ?_
        refine Pv.callVI (as := [.ref 69, .int (Int32.ofNat m)]) (rest := []) (z := b2i (!m_alive S m)) rfl rfl rfl (g_isDead (o := 0) (m := m) (hS.xd.fx (P := fun q => q = 69) (((FX.rf (P := fun q => q = 69))).fp rfl) (by decide)) (hG.fx (P := fun _ => True) (((FX.rf (P := fun _ => True))).fp trivial)) (by omega)) ?_
        refine Pv.if0 rfl (fun c4 => ?_) (fun c4 => ?_)
        · skip
          replace c4 : decide (b2i (!m_alive S m) = 0) = false := by simpa using c4
          replace c4 := of_decide_eq_false c4
          replace c4 := b2n.mp c4
          refine Pv.lit rfl ?_
          exact Pv.ret rfl (by rw [hQ]; exact ⟨by unfold a_apart liv2; rw [hm]; dsimp only; rw [ho]; dsimp only; rw [if_neg (fun q => by have z := c4; rw [q.2.1] at z; cases z)], (RDR.rf).fp (Or.inl rfl)⟩)
        · skip
          replace c4 : decide (b2i (!m_alive S m) = 0) = true := by simpa using c4
          replace c4 := of_decide_eq_true c4
          replace c4 := b2z.mp c4
          refine Pv.aload rfl rfl ?_
          refine Pv.iload rfl rfl ?_
          refine Pv.callVI (as := [.ref 69, .int (Int32.ofNat o)]) (rest := []) (z := b2i (!m_alive S o)) rfl rfl rfl (g_isDead (o := 0) (m := o) (hS.xd.fx (P := fun q => q = 69) (((FX.rf (P := fun q => q = 69))).fp rfl) (by decide)) (hG.fx (P := fun _ => True) (((FX.rf (P := fun _ => True))).fp trivial)) (by omega)) ?_
          refine Pv.if0 rfl (fun c5 => ?_) (fun c5 => ?_)
          · skip
            replace c5 : decide (b2i (!m_alive S o) = 0) = false := by simpa using c5
            replace c5 := of_decide_eq_false c5
            replace c5 := b2n.mp c5
            refine Pv.lit rfl ?_
            exact Pv.ret rfl (by rw [hQ]; exact ⟨by unfold a_apart liv2; rw [hm]; dsimp only; rw [ho]; dsimp only; rw [if_neg (fun q => by have z := c5; rw [q.2.2] at z; cases z)], (RDR.rf).fp (Or.inl rfl)⟩)
          · skip
            replace c5 : decide (b2i (!m_alive S o) = 0) = true := by simpa using c5
            replace c5 := of_decide_eq_true c5
            replace c5 := b2z.mp c5
            have a1 : m_alive S m = true := by simpa using c4
            have a2 : m_alive S o = true := by simpa using c5
            refine Pv.aload rfl rfl ?_
            refine Pv.getR (v := .ref 71) rfl rfl (GW.at (a := 69) (k := 6) (b := 71) hG (by decide)) ?_
            refine Pv.lit rfl ?_
            refine Pv.lit rfl ?_
            refine Pv.iload rfl rfl ?_
            refine Pv.bin (z := Int32.ofNat (8 * m)) rfl (i_mul 8 m) ?_
            refine Pv.bin (z := Int32.ofNat (189 + (8 * m))) rfl (i_add 189 (8 * m)) ?_
            refine Pv.iload rfl rfl ?_
            refine Pv.bin (z := Int32.ofNat ((189 + (8 * m)) + o)) rfl (i_add (189 + (8 * m)) o) ?_
            refine Pv.ald (z := m_apart S m o) rfl (by rw [i_toNat (by omega)]; exact (fp_ne (Or.inl (by decide))).trans (hS.p (by omega) (by omega) c3 a1 a2)) ?_
            refine Pv.goto rfl ?_
            exact Pv.ret rfl (by rw [hQ]; exact ⟨by unfold a_apart liv2; rw [hm]; dsimp only; rw [ho]; dsimp only; rw [if_pos ⟨c3, a1, a2⟩], (RDR.rf).fp (Or.inl rfl)⟩)
set_option maxRecDepth 100000 in
set_option maxHeartbeats 4000000 in
theorem q_rats {F : FW} {T : St} {S : Sh} (hT : XT F T) (hS : XS F (t_m T) S) (hG : GW F) (hAB : AB T S) : Pm Z_X11_rats [.ref 69] F (fun r F' => r = some (.int (a_rats T S)) ∧ RDR F F') := by
  refine Pm.of fun N => ?_
  obtain ⟨Q, hQ⟩ : ∃ Q : Option Value → FW → Prop, Q = (fun r F' => r = some (.int (a_rats T S)) ∧ RDR F F') := ⟨_, rfl⟩
  rw [← hQ]
  have b3 := hT.mb
  have b4 := hT.nb
  have b5 := hT.gb
  have b6 := m_from_lt S
  have b7 := hS.db
  refine (show Pv (ab_T (L_X11_rats Z_X11_menOn Z_X11_isDead)) N 0 [some (.ref 69), none, none] [] F Q from ?_)
  refine Pv.aload rfl rfl ?_
  refine Pv.lit rfl ?_
  refine Pv.putI rfl rfl ?_
  refine Pv.aload rfl rfl ?_
  refine Pv.lit rfl ?_
  refine Pv.callVI (as := [.ref 69, .int 0]) (rest := []) (z := m_men T S 0) rfl rfl rfl (q_menOn (hT.fx (P := fun q => q = 69) (((FX.rf (P := fun q => q = 69))).fp rfl) (by decide)) (hS.fx (P := fun q => q = 69) b3 (((FX.rf (P := fun q => q = 69))).fp rfl) (by decide)) (hG.fx (P := fun _ => True) (((FX.rf (P := fun _ => True))).fp trivial)) 0 (by decide)) ?_
  refine Pv.aload rfl rfl ?_
  refine Pv.lit rfl ?_
  refine Pv.callVI (as := [.ref 69, .int 1]) (rest := [.int (m_men T S 0)]) (z := m_men T S 1) rfl rfl rfl (q_menOn (hT.fx (P := fun q => q = 69) (((FX.rf (P := fun q => q = 69))).fp rfl) (by decide)) (hS.fx (P := fun q => q = 69) b3 (((FX.rf (P := fun q => q = 69))).fp rfl) (by decide)) (hG.fx (P := fun _ => True) (((FX.rf (P := fun _ => True))).fp trivial)) 1 (by decide)) ?_
  refine Pv.bin (z := (m_men T S 0) ||| (m_men T S 1)) rfl (rfl) ?_
  refine Pv.istore (lo' := [some (.ref 69), some (.int ((m_men T S 0) ||| (m_men T S 1))), none]) rfl rfl ?_
  refine Pv.lit rfl ?_
  refine Pv.istore (lo' := [some (.ref 69), some (.int ((m_men T S 0) ||| (m_men T S 1))), some (.int 0)]) rfl rfl ?_
  refine Pv.lp (ι := Nat × Int32) (lof := fun ⟨k, b⟩ => [some (.ref 69), some (.int b), some (.int (Int32.ofNat k))]) (Ff := fun ⟨k, b⟩ => (fp F 69 0 0)) (P := fun ⟨k, b⟩ => k ≤ t_n T ∧ ∀ j, j < 32 → btb b j = (btb (m_men T S 0 ||| m_men T S 1) j && !m_could T S j k)) ?_ (0, (m_men T S 0) ||| (m_men T S 1)) (⟨Nat.zero_le _, fun j hj => by show _ = (_ && !false); rw [Bool.not_false, Bool.and_true]⟩)
  rintro N1 hN2 ⟨k, b⟩ hi3 ih4
  refine (show Pv _ _ 19 [some (.ref 69), some (.int b), some (.int (Int32.ofNat k))] [] (fp F 69 0 0) Q from ?_)
  obtain ⟨hk, hb⟩ := hi3
  refine Pv.iloadS rfl rfl ?_
  refine Pv.aload rfl rfl ?_
  refine Pv.getR (v := .ref 71) rfl rfl (GW.at (a := 69) (k := 6) (b := 71) hG (by decide)) ?_
  refine Pv.lit rfl ?_
  refine Pv.ald (z := Int32.ofNat (t_n T)) rfl ((fp_ne (Or.inl (by decide))).trans (hT.n)) ?_
  refine Pv.icmp rfl (fun c5 => ?_) (fun c5 => ?_)
  · skip
    replace c5 := (i_le (a := t_n T) (b := k) (by omega) (by omega)).mp (of_decide_eq_true c5)
    refine Pv.iload rfl rfl ?_
    exact Pv.ret rfl (by rw [hQ]; exact ⟨by rw [show b = a_rats T S from rats_eq hAB b3 (fun j hj => by rw [hb j hj, show k = t_n T by omega])], (RDR.rf).fp (Or.inl rfl)⟩)
  · skip
    replace c5 := mt (i_le (a := t_n T) (b := k) (by omega) (by omega)).mpr (of_decide_eq_false c5)
    have b1 := hT.rb (show k < t_n T by omega)
    have b2 := hT.db (show k < t_n T by omega)
    refine Pv.aload rfl rfl ?_
    refine Pv.aload rfl rfl ?_
    refine Pv.getR (v := .ref 71) rfl rfl (GW.at (a := 69) (k := 6) (b := 71) hG (by decide)) ?_
    refine Pv.lit rfl ?_
    refine Pv.iload rfl rfl ?_
    refine Pv.bin (z := Int32.ofNat (60 + k)) rfl (i_add 60 k) ?_
    refine Pv.ald (z := Int32.ofNat (t_r T k)) rfl (by rw [i_toNat (by omega)]; exact (fp_ne (Or.inl (by decide))).trans (hT.r _ (by omega))) ?_
    refine Pv.callVI (as := [.ref 69, .int (Int32.ofNat (t_r T k))]) (rest := []) (z := b2i (!m_alive S (t_r T k))) rfl rfl rfl (g_isDead (o := 0) (m := t_r T k) (hS.xd.fx (P := fun q => q = 69) (((FX.rf (P := fun q => q = 69))).fp rfl) (by decide)) (hG.fx (P := fun _ => True) (((FX.rf (P := fun _ => True))).fp trivial)) (by omega)) ?_
    refine Pv.if0 rfl (fun c6 => ?_) (fun c6 => ?_)
    · skip
      replace c6 : decide (b2i (!m_alive S (t_r T k)) = 0) = false := by simpa using c6
      replace c6 := of_decide_eq_false c6
      replace c6 := b2n.mp c6
      refine Pv.iinc (y := Int32.ofNat (k + 1)) (lo' := [some (.ref 69), some (.int b), some (.int (Int32.ofNat (k + 1)))]) rfl rfl (i_add k 1) rfl ?_
      refine Pv.goto rfl ?_
      exact ih4 (k + 1, b) (⟨by omega, fun j hj => by rw [hb j hj]; show _ = (_ && !(m_could T S j k || (decide (t_d T k = j) && m_alive S (t_r T k)))); have q := c6; simp at q; simp [q]⟩)
    · skip
      replace c6 : decide (b2i (!m_alive S (t_r T k)) = 0) = true := by simpa using c6
      replace c6 := of_decide_eq_true c6
      replace c6 := b2z.mp c6
      refine Pv.iload rfl rfl ?_
      refine Pv.lit rfl ?_
      refine Pv.aload rfl rfl ?_
      refine Pv.getR (v := .ref 71) rfl rfl (GW.at (a := 69) (k := 6) (b := 71) hG (by decide)) ?_
      refine Pv.lit rfl ?_
      refine Pv.iload rfl rfl ?_
      refine Pv.bin (z := Int32.ofNat (80 + k)) rfl (i_add 80 k) ?_
      refine Pv.ald (z := Int32.ofNat (t_d T k)) rfl (by rw [i_toNat (by omega)]; exact (fp_ne (Or.inl (by decide))).trans (hT.d _ (by omega))) ?_
      refine Pv.bin (z := 1 <<< ((Int32.ofNat (t_d T k)) &&& 31)) rfl (rfl) ?_
      refine Pv.lit rfl ?_
      refine Pv.bin (z := (1 <<< ((Int32.ofNat (t_d T k)) &&& 31)) ^^^ (-1)) rfl (rfl) ?_
      refine Pv.bin (z := b &&& ((1 <<< ((Int32.ofNat (t_d T k)) &&& 31)) ^^^ (-1))) rfl (rfl) ?_
      refine Pv.istore (lo' := [some (.ref 69), some (.int (b &&& ((1 <<< ((Int32.ofNat (t_d T k)) &&& 31)) ^^^ (-1)))), some (.int (Int32.ofNat k))]) rfl rfl ?_
      refine Pv.iinc (y := Int32.ofNat (k + 1)) (lo' := [some (.ref 69), some (.int (b &&& ((1 <<< ((Int32.ofNat (t_d T k)) &&& 31)) ^^^ (-1)))), some (.int (Int32.ofNat (k + 1)))]) rfl rfl (i_add k 1) rfl ?_
      refine Pv.goto rfl ?_
      exact ih4 (k + 1, b &&& ((1 <<< ((Int32.ofNat (t_d T k)) &&& 31)) ^^^ (-1))) (⟨by omega, fun j hj => by rw [rat_clr (by omega) hj, hb j hj]; show _ = (_ && !(m_could T S j k || (decide (t_d T k = j) && m_alive S (t_r T k)))); have q := c6; simp at q; rw [q, Bool.and_true, Bool.not_or, Bool.and_assoc]⟩)
set_option maxRecDepth 100000 in
set_option maxHeartbeats 4000000 in
theorem q_going {F : FW} {T : St} {S : Sh} (hT : XT F T) (hS : XS F (t_m T) S) (hG : GW F) : Pm Z_X11_going [.ref 69] F (fun r F' => r = some (.int (a_going T S)) ∧ RDR F F') := by
  refine Pm.of fun N => ?_
  obtain ⟨Q, hQ⟩ : ∃ Q : Option Value → FW → Prop, Q = (fun r F' => r = some (.int (a_going T S)) ∧ RDR F F') := ⟨_, rfl⟩
  rw [← hQ]
  have b3 := hT.mb
  have b4 := hT.nb
  have b5 := hT.gb
  have b6 := m_from_lt S
  have b7 := hS.db
  refine (show Pv (ab_T (L_X11_going Z_X11_goingSet)) N 0 [some (.ref 69)] [] F Q from ?_)
  refine Pv.aload rfl rfl ?_
  refine Pv.lit rfl ?_
  refine Pv.putI rfl rfl ?_
  refine Pv.aload rfl rfl ?_
  refine Pv.getR (v := .ref 71) rfl rfl (GW.at (a := 69) (k := 6) (b := 71) hG (by decide)) ?_
  refine Pv.lit rfl ?_
  refine Pv.ald (z := Int32.ofNat (h_d S)) rfl ((fp_ne (Or.inl (by decide))).trans (hS.d)) ?_
  refine Pv.lit rfl ?_
  refine Pv.icmp rfl (fun c1 => ?_) (fun c1 => ?_)
  · skip
    replace c1 : decide (Int32.ofNat (h_d S) = 400) = false := by simpa using c1
    replace c1 := mt (i_eq (a := h_d S) (b := 400) (by omega) (by omega)).mpr (of_decide_eq_false c1)
    refine Pv.aload rfl rfl ?_
    refine Pv.callVI (as := [.ref 69]) (rest := []) (z := m_board T S) rfl rfl rfl (g_goingSet  (hT.fx (P := fun q => q = 69) (((FX.rf (P := fun q => q = 69))).fp rfl) (by decide)) (hS.fx (P := fun q => q = 69) b3 (((FX.rf (P := fun q => q = 69))).fp rfl) (by decide)) (hG.fx (P := fun _ => True) (((FX.rf (P := fun _ => True))).fp trivial)) (by omega)) ?_
    exact Pv.ret rfl (by rw [hQ]; exact ⟨rfl, ((RDR.rf).fp (Or.inl rfl)).fp (Or.inr (Or.inl rfl))⟩)
  · skip
    replace c1 : decide (Int32.ofNat (h_d S) = 400) = true := by simpa using c1
    replace c1 := (i_eq (a := h_d S) (b := 400) (by omega) (by omega)).mp (of_decide_eq_true c1)
    refine Pv.lit rfl ?_
    refine Pv.goto rfl ?_
    exact Pv.ret rfl (by rw [hQ]; exact ⟨by unfold a_going; rw [board_0 (by omega)], (RDR.rf).fp (Or.inl rfl)⟩)
