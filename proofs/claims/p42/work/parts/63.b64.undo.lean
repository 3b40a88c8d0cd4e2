set_option maxRecDepth 100000 in
set_option maxHeartbeats 4000000 in
theorem o_undo {F : FW} {t : Nat} {T : St} {S : Sh} (hG : GW F) (ht : F.2.1 0 13 = .ref t) (hT : TR F t T) (hS : SHR F 12 (t_m T) S) (j0 : t = 45 ∨ t = 53) {n : Nat} {H : Nat → Sh} (hH : HST F (t_m T) n H) (h88 : 88 ≤ F.2.2.2.1) : Pm Z_X10_undo [.ref 0] F (fun r F' => r = some (.int (if n = 0 then -1 else Int32.ofNat (n - 1))) ∧ HST F' (t_m T) (n - 1) H ∧ SHR F' 12 (t_m T) (if n = 0 then S else H (n - 1)) ∧ FX (fun q => (12 ≤ q ∧ q ≤ 19) ∨ q = 10) F F') := by
  refine Pm.of fun N => ?_
  obtain ⟨Q, hQ⟩ : ∃ Q : Option Value → FW → Prop, Q = (fun r F' => r = some (.int (if n = 0 then -1 else Int32.ofNat (n - 1))) ∧ HST F' (t_m T) (n - 1) H ∧ SHR F' 12 (t_m T) (if n = 0 then S else H (n - 1)) ∧ FX (fun q => (12 ≤ q ∧ q ≤ 19) ∨ q = 10) F F') := ⟨_, rfl⟩
  rw [← hQ]
  have b3 := hT.mb
  have b4 := hT.nb
  have b5 := hT.gb
  have b6 := m_from_lt S
  have b7 := hS.db
  refine (show Pv (ab_T (L_X10_undo Z_X2_takeBack)) N 0 [some (.ref 0)] [] F Q from ?_)
  refine Pv.aload rfl rfl ?_
  refine Pv.getR (v := .ref 10) rfl rfl (GW.at (a := 0) (k := 3) (b := 10) hG (by decide)) ?_
  refine Pv.aload rfl rfl ?_
  refine Pv.getR (v := .ref 12) rfl rfl (GW.at (a := 0) (k := 4) (b := 12) hG (by decide)) ?_
  refine Pv.callV (as := [.ref 10, .ref 12]) (rest := []) rfl rfl rfl (f_takeBack hG hH hS b3) ?_
  rintro _ G ⟨rfl, h1, h2, h3⟩
  refine (show Pv _ _ 11 [some (.ref 0)] [.int (if n = 0 then -1 else Int32.ofNat (n - 1))] G Q from ?_)
  exact Pv.ret rfl (by rw [hQ]; exact ⟨rfl, h1, h2, h3⟩)
set_option maxRecDepth 100000 in
set_option maxHeartbeats 4000000 in
theorem o_price {F : FW} {p : Nat} {f : Nat → Int32} (hG : GW F) (hp : F.1 0 17 = Int32.ofNat p) (hp6 : p ≤ 6) (hf : AR F 42 12 f) (x y : Int32) : Pm Z_X10_price [.ref 0, .int x, .int y] F (fun r F' => r = some (.int (a_price p f x y)) ∧ F' = F) := by
  refine Pm.of fun N => ?_
  obtain ⟨Q, hQ⟩ : ∃ Q : Option Value → FW → Prop, Q = (fun r F' => r = some (.int (a_price p f x y)) ∧ F' = F) := ⟨_, rfl⟩
  rw [← hQ]
  refine (show Pv (ab_T (L_X10_price Z_X10_isShore Z_X10_slotOf)) N 0 [some (.ref 0), some (.int x), some (.int y), none] [] F Q from ?_)
  refine Pv.iload rfl rfl ?_
  refine Pv.if0 rfl (fun c1 => ?_) (fun c1 => ?_)
  · skip
    replace c1 := of_decide_eq_true c1
    refine Pv.lit rfl ?_
    refine Pv.istore (lo' := [some (.ref 0), some (.int x), some (.int y), some (.int 0)]) rfl rfl ?_
    refine Pv.iload rfl rfl ?_
    refine Pv.if0 rfl (fun c2 => ?_) (fun c2 => ?_)
    · skip
      replace c2 := (i_eq (a := 0) (b := 0) (by omega) (by omega)).mp (of_decide_eq_true c2)
      refine Pv.lit rfl ?_
      exact Pv.ret rfl (by rw [hQ]; exact ⟨by rw [a_price_n1 (nd_f (n := p) (x := x) (by rw [← nd_b (by omega)]; simp [c1]))], rfl⟩)
    · skip
      replace c2 := mt (i_eq (a := 0) (b := 0) (by omega) (by omega)).mpr (of_decide_eq_false c2)
      omega
  · skip
    replace c1 := of_decide_eq_false c1
    refine Pv.iload rfl rfl ?_
    refine Pv.aload rfl rfl ?_
    refine Pv.getI (z := Int32.ofNat p) rfl rfl (hp) ?_
    refine Pv.icmp rfl (fun c3 => ?_) (fun c3 => ?_)
    · skip
      replace c3 := of_decide_eq_true c3
      refine Pv.lit rfl ?_
      refine Pv.istore (lo' := [some (.ref 0), some (.int x), some (.int y), some (.int 0)]) rfl rfl ?_
      refine Pv.iload rfl rfl ?_
      refine Pv.if0 rfl (fun c4 => ?_) (fun c4 => ?_)
      · skip
        replace c4 := (i_eq (a := 0) (b := 0) (by omega) (by omega)).mp (of_decide_eq_true c4)
        refine Pv.lit rfl ?_
        exact Pv.ret rfl (by rw [hQ]; exact ⟨by rw [a_price_n1 (nd_f (n := p) (x := x) (by rw [← nd_b (by omega)]; simp [c1, c3]))], rfl⟩)
      · skip
        replace c4 := mt (i_eq (a := 0) (b := 0) (by omega) (by omega)).mpr (of_decide_eq_false c4)
        omega
    · skip
      replace c3 := of_decide_eq_false c3
      refine Pv.iload rfl rfl ?_
      refine Pv.callI (as := [.int y]) (rest := []) (z := b2i (nd 2 y).isSome) rfl rfl rfl (o_isShore y) ?_
      refine Pv.if0 rfl (fun c5 => ?_) (fun c5 => ?_)
      · skip
        replace c5 := of_decide_eq_true c5
        replace c5 := b2z.mp c5
        refine Pv.lit rfl ?_
        refine Pv.istore (lo' := [some (.ref 0), some (.int x), some (.int y), some (.int 0)]) rfl rfl ?_
        refine Pv.iload rfl rfl ?_
        refine Pv.if0 rfl (fun c6 => ?_) (fun c6 => ?_)
        · skip
          replace c6 := (i_eq (a := 0) (b := 0) (by omega) (by omega)).mp (of_decide_eq_true c6)
          refine Pv.lit rfl ?_
          exact Pv.ret rfl (by rw [hQ]; exact ⟨by rw [a_price_n2 (nd_f c5)], rfl⟩)
        · skip
          replace c6 := mt (i_eq (a := 0) (b := 0) (by omega) (by omega)).mpr (of_decide_eq_false c6)
          omega
      · skip
        replace c5 := of_decide_eq_false c5
        replace c5 := b2n.mp c5
        refine Pv.lit rfl ?_
        refine Pv.goto rfl ?_
        refine Pv.istore (lo' := [some (.ref 0), some (.int x), some (.int y), some (.int 1)]) rfl rfl ?_
        refine Pv.iload rfl rfl ?_
        refine Pv.if0 rfl (fun c7 => ?_) (fun c7 => ?_)
        · skip
          replace c7 := (i_eq (a := 1) (b := 0) (by omega) (by omega)).mp (of_decide_eq_true c7)
          omega
        · skip
          replace c7 := mt (i_eq (a := 1) (b := 0) (by omega) (by omega)).mpr (of_decide_eq_false c7)
          obtain ⟨g, hg, hgl, rfl⟩ := nd_t (n := p) (x := x) (by rw [← nd_b (by omega)]; simp [c1, c3])
          obtain ⟨s, hs, hsl, rfl⟩ := nd_t c5
          refine Pv.aload rfl rfl ?_
          refine Pv.getR (v := .ref 42) rfl rfl (GW.at (a := 0) (k := 10) (b := 42) hG (by decide)) ?_
          refine Pv.iload rfl rfl ?_
          refine Pv.iload rfl rfl ?_
          refine Pv.callI (as := [.int (Int32.ofNat g), .int (Int32.ofNat s)]) (rest := [.ref 42]) (z := Int32.ofNat (2 * g + s)) rfl rfl rfl (f_slotOf (g := g) (s := s)) ?_
          refine Pv.ald (z := f (2 * g + s)) rfl (by rw [i_toNat (by omega)]; exact hf _ (by omega)) ?_
          refine Pv.goto rfl ?_
          exact Pv.ret rfl (by rw [hQ]; exact ⟨by unfold a_price; rw [hg]; dsimp only; rw [hs], rfl⟩)
set_option maxRecDepth 100000 in
set_option maxHeartbeats 4000000 in
theorem o_count {F : FW} {t : Nat} {T : St} {e : Int32} (hG : GW F) (ht : F.2.1 0 13 = .ref t) (hT : TR F t T) (he : F.1 1 1 = e) (w : Int32) : Pm Z_X10_count [.ref 0, .int w] F (fun r F' => r = some (.int (a_count T e w)) ∧ F' = F) := by
  refine Pm.of fun N => ?_
  obtain ⟨Q, hQ⟩ : ∃ Q : Option Value → FW → Prop, Q = (fun r F' => r = some (.int (a_count T e w)) ∧ F' = F) := ⟨_, rfl⟩
  rw [← hQ]
  refine (show Pv (ab_T L_X10_count) N 0 [some (.ref 0), some (.int w)] [] F Q from ?_)
  refine Pv.iload rfl rfl ?_
  rcases nd_5 w with rfl | rfl | rfl | rfl | rfl | hw
  · refine Pv.tab (t := 36) rfl rfl ?_
    refine Pv.aload rfl rfl ?_
    refine Pv.getR (v := .ref t) rfl rfl (ht) ?_
    refine Pv.getI (z := Int32.ofNat (t_g T)) rfl rfl (hT.g) ?_
    exact Pv.ret rfl (by rw [hQ]; exact ⟨rfl, rfl⟩)
  · refine Pv.tab (t := 44) rfl rfl ?_
    refine Pv.aload rfl rfl ?_
    refine Pv.getR (v := .ref t) rfl rfl (ht) ?_
    refine Pv.getI (z := Int32.ofNat (t_m T)) rfl rfl (hT.m) ?_
    exact Pv.ret rfl (by rw [hQ]; exact ⟨rfl, rfl⟩)
  · refine Pv.tab (t := 52) rfl rfl ?_
    refine Pv.aload rfl rfl ?_
    refine Pv.getR (v := .ref t) rfl rfl (ht) ?_
    refine Pv.getI (z := t_l T) rfl rfl (hT.l) ?_
    exact Pv.ret rfl (by rw [hQ]; exact ⟨rfl, rfl⟩)
  · refine Pv.tab (t := 60) rfl rfl ?_
    refine Pv.aload rfl rfl ?_
    refine Pv.getR (v := .ref t) rfl rfl (ht) ?_
    refine Pv.getI (z := Int32.ofNat (t_n T)) rfl rfl (hT.n) ?_
    exact Pv.ret rfl (by rw [hQ]; exact ⟨rfl, rfl⟩)
  · refine Pv.tab (t := 68) rfl rfl ?_
    refine Pv.aload rfl rfl ?_
    refine Pv.getR (v := .ref 1) rfl rfl (GW.at (a := 0) (k := 0) (b := 1) hG (by decide)) ?_
    refine Pv.getI (z := e) rfl rfl (he) ?_
    exact Pv.ret rfl (by rw [hQ]; exact ⟨rfl, rfl⟩)
  · refine Pv.tab (t := 76) rfl (nd_tab hw (by decide)) ?_
    refine Pv.lit rfl ?_
    exact Pv.ret rfl (by rw [hQ]; exact ⟨by unfold a_count; rw [hw], rfl⟩)
