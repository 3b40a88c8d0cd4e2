-- 63.b9zk.wh.lean.txt
section
/-! ===== which, by two tapes alike ===== -/
theorem m_wh_c {T : St} {k : Nat} {B C : Nat → Int32} : ∀ i, (∀ q, q < i + 2 → B q = C q) → m_wh T k B i = m_wh T k C i
  | 0, _ => rfl
  | i + 1, h => by
    have e := m_wh_c (T := T) (k := k) i (fun q hq => h q (by omega))
    show (m_wh T k B i && decide (ab_max 0 (m_left T k (B (i + 1))) = B (i + 2))) = (m_wh T k C i && decide (ab_max 0 (m_left T k (C (i + 1))) = C (i + 2)))
    rw [e, h (i + 1) (by omega), h (i + 2) (by omega)]
theorem a_which_c {T : St} {n : Nat} {B C : Nat → Int32} (h : ∀ q, q < n → B q = C q) : a_which T n B = a_which T n C := by
  unfold a_which
  by_cases c : 3 ≤ n ∧ n ≤ 31
  · rw [if_pos c, if_pos c, h 0 (by omega)]
    have e : ∀ s, (fun g => m_wh T (2 * g + s) B (n - 2)) = (fun g => m_wh T (2 * g + s) C (n - 2)) := fun s => funext fun g => m_wh_c (n - 2) (fun q hq => h q (by omega))
    cases nd 2 (C 0) with
    | none => rfl
    | some s =>
      show m_bits (fun g => m_wh T (2 * g + s) B (n - 2)) id (t_g T) = m_bits (fun g => m_wh T (2 * g + s) C (n - 2)) id (t_g T)
      rw [e s]
  · rw [if_neg c, if_neg c]
theorem lw_which {t t1 : Nat → Nat} {hp hp1 : ab_H} {tn : Nat} {T : St} (H : sf_h t hp) (H1 : sf_h t1 hp1) (htn : tn ≤ 940) (hb : bv hp1 70 tn = bv hp 2 tn) : a_which T tn (fun q => (fl hp).1 2 q &&& 255) = a_which T tn (fun q => (fl hp1).1 70 q &&& 255) := a_which_c fun q hq => by
  have h1 := congrFun (RBF_bv H1 htn) q
  rw [hb] at h1
  unfold RBF bv at h1
  rw [if_pos hq, if_pos hq, el_rd H (g := 123) (n := 940) rfl (by decide) (by decide) (by decide) rfl (by omega)] at h1
  exact Int32.toInt_inj.mp ((n_and255 _).trans h1.symm)
end
-- 63.b9zl.pr.lean.txt
section
/-! ===== prices that were found: kept beside the days ===== -/
theorem pE {Z : List Value → ab_H → Option ab_O} {as : List Value} {t : Nat → Nat} {hp hp' : ab_H} {r : Option Value} {Q : Option Value → FW → Prop} (H : sf_h t hp) (p : Pm Z as (fl hp) Q) (e : sf_eqn Z as hp r hp') : Q r (fl hp') := (p hp _ (wt_of H) rfl e).2
end
-- 63.b9zo.man.lean.txt
section
/-! ===== man: what it answers, or that it throws ===== -/
def a_man (T : St) (S : Sh) (x w : Int32) : Option Int32 := match nd (t_m T) x with
  | none => none
  | some m => match nd 5 w with
    | none => none
    | some k => match k with
      | 0 => some (h_a S m)
      | 1 => some (m_missers T S m)
      | 2 => some (m_misses T S m)
      | 3 => some (h_t S m)
      | _ => some (b2i (m_alive S m))
def oM (o : Option Int32) : Value := match o with
  | none => .retAddr 99
  | some v => .int v
def oT (o : Option Int32) : Int32 := match o with
  | none => 1
  | some _ => 0
theorem q_n5 {w : Int32} (h : (decide ((0 : Int32) ≤ w) && decide (w ≤ 4)) = false) : nd 5 w = none := by
  unfold nd
  refine if_neg fun c => ?_
  have e : (4 : Int32).toInt = 4 := rfl
  rw [decide_eq_true (show (0 : Int32) ≤ w by rw [Int32.le_iff_toInt_le, i_0]; exact c.1), decide_eq_true (show w ≤ 4 by rw [Int32.le_iff_toInt_le, e]; omega)] at h
  cases h
theorem q_y5 {w : Int32} (h : (decide ((0 : Int32) ≤ w) && decide (w ≤ 4)) = true) (hw : nd 5 w = none) : False := by
  rw [Bool.and_eq_true, decide_eq_true_eq, decide_eq_true_eq, Int32.le_iff_toInt_le, Int32.le_iff_toInt_le, i_0] at h
  have e : (4 : Int32).toInt = 4 := rfl
  unfold nd at hw
  rw [if_pos ⟨h.1, by omega⟩] at hw
  cases hw
theorem q_da {S : Sh} {m : Nat} (h : (!m_alive S m) = true) : some (Value.int (-1)) = some (Value.int ((some (h_a S m)).getD 0)) := by
  unfold m_alive at h
  rw [Bool.not_not, decide_eq_true_eq] at h
  rw [h]
  rfl
theorem q_al1 {S : Sh} {m : Nat} (h : (!m_alive S m) = false) : some (Value.int 1) = some (Value.int ((some (b2i (m_alive S m))).getD 0)) := by
  rw [show m_alive S m = true by simpa using h]
  rfl
theorem q_al0 {S : Sh} {m : Nat} (h : (!m_alive S m) = true) : some (Value.int 0) = some (Value.int ((some (b2i (m_alive S m))).getD 0)) := by
  rw [show m_alive S m = false by simpa using h]
  rfl
section PVT
variable {T : Nat → Option ab_A} {N i j : Nat} {lo : List (Option Value)} {st : List Value} {F : FW} {Q : Option Value → FW → Prop}
theorem Pv.thr (hT : T i = some ab_thr) (h : Q (some (.retAddr 99)) F) : Pv T N i lo [] F Q :=
  (Pv.gen hT fun u hp hw hF => ⟨fun j' lo' st' u' hp' e => by
    unfold ab_thr at e
    dsimp only at e
    rw [Bool.cond_eq_ite] at e
    split at e <;> (cases e), fun o e => by
    unfold ab_thr at e
    dsimp only at e
    rw [Bool.cond_eq_ite] at e
    split at e
    · obtain rfl := (Sum.inr.inj (Option.some.inj e))
      exact ⟨hw, by rw [hF]; exact h⟩
    · cases e⟩).w
theorem Pv.callX {nA ci mc ms MC MS hj k : Nat} {X : List Value → ab_H → Option ab_O} {as rest : List Value} {Q' : Option Value → FW → Prop} (hT : T i = some (ab_callX j hj k nA ci X mc ms MC MS)) (ha : (st.take nA).reverse = as) (hr : st.drop nA = rest) (hX : Pm X as F Q') (h1 : ∀ r F', ¬ r = some (.retAddr 99) → Q' r F' → Pv T N j lo (r.toList ++ rest) F' Q) (h2 : ∀ F' G, Q' (some (.retAddr 99)) F' → Pv T N hj (lo.set k none) [] G Q) : Pv T N i lo st F Q :=
  (Pv.gen hT fun u hp hw hF => ⟨fun j' lo' st' u' hp' e => by
    unfold ab_callX at e
    rw [Bool.cond_eq_ite] at e
    split at e
    · split at e
      · cases e
      · rename_i o ho
        have ho2 : X (st.take nA).reverse hp = some o := ho
        rw [ha] at ho2
        obtain ⟨w, q⟩ := hX hp o hw hF ho2
        rw [Bool.cond_eq_ite] at e
        split at e
        · rename_i c
          have c2 := of_decide_eq_true c
          rw [c2] at q
          cases e
          exact ⟨wt_push w fun k v hv => absurd hv (by simp), h2 _ _ q⟩
        · rename_i c
          cases e
          refine ⟨w, ?_⟩
          show Pv T N j lo (o.1.toList ++ st.drop nA) (fl o.2) Q
          rw [hr]
          exact h1 _ _ (fun c2 => c (decide_eq_true c2)) q
    · (cases e), fun o e => by
    unfold ab_callX at e
    rw [Bool.cond_eq_ite] at e
    split at e
    · split at e
      · cases e
      · rw [Bool.cond_eq_ite] at e
        split at e <;> (cases e)
    · cases e⟩).w
end PVT
end
-- 63.b9zp.lean.txt
section
set_option maxRecDepth 100000 in
set_option maxHeartbeats 4000000 in
theorem o_man {F : FW} {t : Nat} {T : St} {S : Sh} (hG : GW F) (ht : F.2.1 0 13 = .ref t) (hT : TR F t T) (hS : SHR F 12 (t_m T) S) (j0 : t = 45 ∨ t = 53) (x w : Int32) : Pm Z_X10_man [.ref 0, .int x, .int w] F (fun r F' => r = some (oM (a_man T S x w)) ∧ F' = F) := by
  refine Pm.of fun N => ?_
  obtain ⟨Q, hQ⟩ : ∃ Q : Option Value → FW → Prop, Q = (fun r F' => r = some (oM (a_man T S x w)) ∧ F' = F) := ⟨_, rfl⟩
  rw [← hQ]
  have b3 := hT.mb
  have b4 := hT.nb
  have b5 := hT.gb
  have b6 := m_from_lt S
  have b7 := hS.db
  refine (show Pv (ab_T (L_X10_man Z_X10_isMan Z_X6_missersOf Z_X6_missedBy Z_X6_isAlive)) N 0 [some (.ref 0), some (.int x), some (.int w)] [] F Q from ?_)
  refine Pv.aload rfl rfl ?_
  refine Pv.iload rfl rfl ?_
  refine Pv.callVI (as := [.ref 0, .int x]) (rest := []) (z := b2i (nd (t_m T) x).isSome) rfl rfl rfl (o_isMan hG ht hT hS j0 x) ?_
  refine Pv.if0 rfl (fun c1 => ?_) (fun c1 => ?_)
  · skip
    replace c1 : decide (b2i (nd (t_m T) x).isSome = 0) = false := by simpa using c1
    replace c1 := of_decide_eq_false c1
    replace c1 := b2n.mp c1
    obtain ⟨m, hm, hml, rfl⟩ := nd_t c1
    refine Pv.iload rfl rfl ?_
    rcases nd_5 w with rfl | rfl | rfl | rfl | rfl | hw
    · refine Pv.tab (t := 52) rfl rfl ?_
      refine Pv.aload rfl rfl ?_
      refine Pv.getR (v := .ref 12) rfl rfl (GW.at (a := 0) (k := 4) (b := 12) hG (by decide)) ?_
      refine Pv.getR (v := .ref 17) rfl rfl (hS.o 4 (by decide)) ?_
      refine Pv.iload rfl rfl ?_
      refine Pv.ald (z := h_a S m) rfl (by rw [i_toNat (by omega)]; exact hS.a _ (by omega)) ?_
      exact Pv.ret rfl (by rw [hQ]; exact ⟨by unfold a_man; rw [hm]; rfl, rfl⟩)
    · refine Pv.tab (t := 62) rfl rfl ?_
      refine Pv.aload rfl rfl ?_
      refine Pv.getR (v := .ref 12) rfl rfl (GW.at (a := 0) (k := 4) (b := 12) hG (by decide)) ?_
      refine Pv.aload rfl rfl ?_
      refine Pv.getR (v := .ref t) rfl rfl (ht) ?_
      refine Pv.iload rfl rfl ?_
      refine Pv.callVI (as := [.ref 12, .ref t, .int (Int32.ofNat m)]) (rest := []) (z := m_missers T S m) rfl rfl rfl (f_missersOf (m := m) hT hS (by omega)) ?_
      exact Pv.ret rfl (by rw [hQ]; exact ⟨by unfold a_man; rw [hm]; rfl, rfl⟩)
    · refine Pv.tab (t := 75) rfl rfl ?_
      refine Pv.aload rfl rfl ?_
      refine Pv.getR (v := .ref 12) rfl rfl (GW.at (a := 0) (k := 4) (b := 12) hG (by decide)) ?_
      refine Pv.aload rfl rfl ?_
      refine Pv.getR (v := .ref t) rfl rfl (ht) ?_
      refine Pv.iload rfl rfl ?_
      refine Pv.callVI (as := [.ref 12, .ref t, .int (Int32.ofNat m)]) (rest := []) (z := m_misses T S m) rfl rfl rfl (f_missedBy (m := m) hT hS (by omega)) ?_
      exact Pv.ret rfl (by rw [hQ]; exact ⟨by unfold a_man; rw [hm]; rfl, rfl⟩)
    · refine Pv.tab (t := 88) rfl rfl ?_
      refine Pv.aload rfl rfl ?_
      refine Pv.getR (v := .ref 12) rfl rfl (GW.at (a := 0) (k := 4) (b := 12) hG (by decide)) ?_
      refine Pv.getR (v := .ref 18) rfl rfl (hS.o 5 (by decide)) ?_
      refine Pv.iload rfl rfl ?_
      refine Pv.ald (z := h_t S m) rfl (by rw [i_toNat (by omega)]; exact hS.t _ (by omega)) ?_
      exact Pv.ret rfl (by rw [hQ]; exact ⟨by unfold a_man; rw [hm]; rfl, rfl⟩)
    · refine Pv.tab (t := 98) rfl rfl ?_
      refine Pv.aload rfl rfl ?_
      refine Pv.getR (v := .ref 12) rfl rfl (GW.at (a := 0) (k := 4) (b := 12) hG (by decide)) ?_
      refine Pv.iload rfl rfl ?_
      refine Pv.callVI (as := [.ref 12, .int (Int32.ofNat m)]) (rest := []) (z := b2i (m_alive S m)) rfl rfl rfl (f_isAlive (m := m) hS (by omega) (by omega)) ?_
      refine Pv.if0 rfl (fun c2 => ?_) (fun c2 => ?_)
      · skip
        replace c2 := of_decide_eq_true c2
        replace c2 := b2z.mp c2
        refine Pv.lit rfl ?_
        exact Pv.ret rfl (by rw [hQ]; exact ⟨by unfold a_man; rw [hm]; exact b2_f c2, rfl⟩)
      · skip
        replace c2 := of_decide_eq_false c2
        replace c2 := b2n.mp c2
        refine Pv.lit rfl ?_
        refine Pv.goto rfl ?_
        exact Pv.ret rfl (by rw [hQ]; exact ⟨by unfold a_man; rw [hm]; exact b2_t c2, rfl⟩)
    · refine Pv.tab (t := 115) rfl (nd_tab hw (by decide)) ?_
      exact Pv.thr rfl (by rw [hQ]; exact ⟨by unfold a_man; rw [hm, hw]; rfl, rfl⟩)
  · skip
    replace c1 : decide (b2i (nd (t_m T) x).isSome = 0) = true := by simpa using c1
    replace c1 := of_decide_eq_true c1
    replace c1 := b2z.mp c1
    exact Pv.thr rfl (by rw [hQ]; exact ⟨by unfold a_man; rw [nd_f c1]; rfl, rfl⟩)
set_option maxRecDepth 100000 in
set_option maxHeartbeats 4000000 in
theorem q_throws1 {F : FW} : Pm Z_X11_throwsIf [.ref 69, .int 1] F (fun r F' => r = some (.int 1) ∧ F' = fp F 69 0 1) := by
  refine Pm.of fun N => ?_
  obtain ⟨Q, hQ⟩ : ∃ Q : Option Value → FW → Prop, Q = (fun r F' => r = some (.int 1) ∧ F' = fp F 69 0 1) := ⟨_, rfl⟩
  rw [← hQ]
  refine (show Pv (ab_T L_X11_throwsIf) N 0 [some (.ref 69), some (.int 1)] [] F Q from ?_)
  refine Pv.aload rfl rfl ?_
  refine Pv.iload rfl rfl ?_
  refine Pv.if0 rfl (fun c1 => ?_) (fun c1 => ?_)
  · skip
    replace c1 := (i_eq (a := 1) (b := 0) (by omega) (by omega)).mp (of_decide_eq_true c1)
    omega
  · skip
    replace c1 := mt (i_eq (a := 1) (b := 0) (by omega) (by omega)).mpr (of_decide_eq_false c1)
    refine Pv.lit rfl ?_
    refine Pv.goto rfl ?_
    refine Pv.putI rfl rfl ?_
    refine Pv.iload rfl rfl ?_
    exact Pv.zret rfl (by rw [hQ]; exact ⟨rfl, rfl⟩)
set_option maxRecDepth 100000 in
set_option maxHeartbeats 4000000 in
theorem q_throws0 {F : FW} : Pm Z_X11_throwsIf [.ref 69, .int 0] F (fun r F' => r = some (.int 0) ∧ F' = fp F 69 0 0) := by
  refine Pm.of fun N => ?_
  obtain ⟨Q, hQ⟩ : ∃ Q : Option Value → FW → Prop, Q = (fun r F' => r = some (.int 0) ∧ F' = fp F 69 0 0) := ⟨_, rfl⟩
  rw [← hQ]
  refine (show Pv (ab_T L_X11_throwsIf) N 0 [some (.ref 69), some (.int 0)] [] F Q from ?_)
  refine Pv.aload rfl rfl ?_
  refine Pv.iload rfl rfl ?_
  refine Pv.if0 rfl (fun c1 => ?_) (fun c1 => ?_)
  · skip
    replace c1 := (i_eq (a := 0) (b := 0) (by omega) (by omega)).mp (of_decide_eq_true c1)
    refine Pv.lit rfl ?_
    refine Pv.putI rfl rfl ?_
    refine Pv.iload rfl rfl ?_
    exact Pv.zret rfl (by rw [hQ]; exact ⟨rfl, rfl⟩)
  · skip
    replace c1 := mt (i_eq (a := 0) (b := 0) (by omega) (by omega)).mpr (of_decide_eq_false c1)
    omega
set_option maxRecDepth 100000 in
set_option maxHeartbeats 4000000 in
theorem q_man {F : FW} {T : St} {S : Sh} (hT : XT F T) (hS : XS F (t_m T) S) (hG : GW F) (x w : Int32) : Pm Z_X11_man [.ref 69, .int x, .int w] F (fun r F' => r = some (.int ((a_man T S x w).getD 0)) ∧ F' = fp F 69 0 (oT (a_man T S x w))) := by
  refine Pm.of fun N => ?_
  obtain ⟨Q, hQ⟩ : ∃ Q : Option Value → FW → Prop, Q = (fun r F' => r = some (.int ((a_man T S x w).getD 0)) ∧ F' = fp F 69 0 (oT (a_man T S x w))) := ⟨_, rfl⟩
  rw [← hQ]
  have b3 := hT.mb
  have b4 := hT.nb
  have b5 := hT.gb
  have b6 := m_from_lt S
  have b7 := hS.db
  refine (show Pv (ab_T (L_X11_man Z_X11_isMan Z_X11_isIn Z_X11_throwsIf Z_X11_isDead Z_X11_missedBy Z_X11_missesOf)) N 0 [some (.ref 69), some (.int x), some (.int w)] [] F Q from ?_)
  refine Pv.aload rfl rfl ?_
  refine Pv.aload rfl rfl ?_
  refine Pv.iload rfl rfl ?_
  refine Pv.callVI (as := [.ref 69, .int x]) (rest := [.ref 69]) (z := b2i (nd (t_m T) x).isSome) rfl rfl rfl (q_isMan hT hG x) ?_
  refine Pv.if0 rfl (fun c1 => ?_) (fun c1 => ?_)
  · skip
    replace c1 := of_decide_eq_true c1
    replace c1 := b2z.mp c1
    refine Pv.lit rfl ?_
    refine Pv.goto rfl ?_
    refine Pv.callVI (as := [.ref 69, .int 1]) (rest := []) (z := 1) rfl rfl rfl (q_throws1) ?_
    refine Pv.if0 rfl (fun c2 => ?_) (fun c2 => ?_)
    · skip
      replace c2 := (i_eq (a := 1) (b := 0) (by omega) (by omega)).mp (of_decide_eq_true c2)
      omega
    · skip
      replace c2 := mt (i_eq (a := 1) (b := 0) (by omega) (by omega)).mpr (of_decide_eq_false c2)
      refine Pv.lit rfl ?_
      exact Pv.ret rfl (by rw [hQ]; exact ⟨by unfold a_man; rw [nd_f c1]; rfl, by unfold a_man; rw [nd_f c1]; rfl⟩)
  · skip
    replace c1 := of_decide_eq_false c1
    replace c1 := b2n.mp c1
    obtain ⟨k, hm, hml, rfl⟩ := nd_t c1
    refine Pv.iload rfl rfl ?_
    refine Pv.lit rfl ?_
    refine Pv.lit rfl ?_
    refine Pv.callI (as := [.int w, .int 0, .int 4]) (rest := [.ref 69]) (z := b2i (decide (0 ≤ w) && decide (w ≤ 4))) rfl rfl rfl (q_isIn w 0 4) ?_
    refine Pv.if0 rfl (fun c3 => ?_) (fun c3 => ?_)
    · skip
      replace c3 : decide (b2i (decide (0 ≤ w) && decide (w ≤ 4)) = 0) = false := by simpa using c3
      replace c3 := of_decide_eq_false c3
      replace c3 := b2n.mp c3
      refine Pv.lit rfl ?_
      refine Pv.callVI (as := [.ref 69, .int 0]) (rest := []) (z := 0) rfl rfl rfl (q_throws0) ?_
      refine Pv.if0 rfl (fun c4 => ?_) (fun c4 => ?_)
      · skip
        replace c4 := (i_eq (a := 0) (b := 0) (by omega) (by omega)).mp (of_decide_eq_true c4)
        refine Pv.iload rfl rfl ?_
        rcases nd_5 w with rfl | rfl | rfl | rfl | rfl | hw
        · refine Pv.tab (t := 64) rfl rfl ?_
          refine Pv.aload rfl rfl ?_
          refine Pv.iload rfl rfl ?_
          refine Pv.callVI (as := [.ref 69, .int (Int32.ofNat k)]) (rest := []) (z := b2i (!m_alive S k)) rfl rfl rfl (g_isDead (o := 0) (m := k) (hS.xd.fx (P := fun q => q = 69) (((FX.rf (P := fun q => q = 69))).fp rfl) (by decide)) (hG.fx (P := fun _ => True) (((FX.rf (P := fun _ => True))).fp trivial)) (by omega)) ?_
          refine Pv.if0 rfl (fun c5 => ?_) (fun c5 => ?_)
          · skip
            replace c5 := of_decide_eq_true c5
            replace c5 := b2z.mp c5
            have al : m_alive S k = true := by simpa using c5
            refine Pv.aload rfl rfl ?_
            refine Pv.getR (v := .ref 71) rfl rfl (GW.at (a := 69) (k := 6) (b := 71) hG (by decide)) ?_
            refine Pv.lit rfl ?_
            refine Pv.iload rfl rfl ?_
            refine Pv.bin (z := Int32.ofNat (172 + k)) rfl (i_add 172 k) ?_
            refine Pv.ald (z := h_a S k) rfl (by rw [i_toNat (by omega)]; exact (fp_ne (Or.inl (by decide))).trans (hS.a (by omega) al)) ?_
            exact Pv.ret rfl (by rw [hQ]; exact ⟨by unfold a_man; rw [hm]; rfl, by unfold a_man; rw [hm]; rfl⟩)
          · skip
            replace c5 := of_decide_eq_false c5
            replace c5 := b2n.mp c5
            refine Pv.lit rfl ?_
            refine Pv.goto rfl ?_
            exact Pv.ret rfl (by rw [hQ]; exact ⟨by unfold a_man; rw [hm]; exact q_da c5, by unfold a_man; rw [hm]; rfl⟩)
        · refine Pv.tab (t := 87) rfl rfl ?_
          refine Pv.aload rfl rfl ?_
          refine Pv.iload rfl rfl ?_
          refine Pv.callVI (as := [.ref 69, .int (Int32.ofNat k)]) (rest := []) (z := m_bits (fun m => m_does T S m k) id (t_m T)) rfl rfl rfl (g_missedBy (o := k) (hT.fx (P := fun q => q = 69) (((FX.rf (P := fun q => q = 69))).fp rfl) (by decide)) (hS.fx (P := fun q => q = 69) b3 (((FX.rf (P := fun q => q = 69))).fp rfl) (by decide)) (hG.fx (P := fun _ => True) (((FX.rf (P := fun _ => True))).fp trivial)) (by omega)) ?_
          exact Pv.ret rfl (by rw [hQ]; exact ⟨by unfold a_man; rw [hm]; rw [m_missers_eq hT.w]; rfl, by unfold a_man; rw [hm]; rfl⟩)
        · refine Pv.tab (t := 93) rfl rfl ?_
          refine Pv.aload rfl rfl ?_
          refine Pv.iload rfl rfl ?_
          refine Pv.callVI (as := [.ref 69, .int (Int32.ofNat k)]) (rest := []) (z := m_bits (fun o => m_does T S k o) id (t_m T)) rfl rfl rfl (g_missesOf (m := k) (hT.fx (P := fun q => q = 69) (((FX.rf (P := fun q => q = 69))).fp rfl) (by decide)) (hS.fx (P := fun q => q = 69) b3 (((FX.rf (P := fun q => q = 69))).fp rfl) (by decide)) (hG.fx (P := fun _ => True) (((FX.rf (P := fun _ => True))).fp trivial)) (by omega)) ?_
          exact Pv.ret rfl (by rw [hQ]; exact ⟨by unfold a_man; rw [hm]; rw [m_misses_eq hT.w]; rfl, by unfold a_man; rw [hm]; rfl⟩)
        · refine Pv.tab (t := 99) rfl rfl ?_
          refine Pv.aload rfl rfl ?_
          refine Pv.getR (v := .ref 71) rfl rfl (GW.at (a := 69) (k := 6) (b := 71) hG (by decide)) ?_
          refine Pv.lit rfl ?_
          refine Pv.iload rfl rfl ?_
          refine Pv.bin (z := Int32.ofNat (181 + k)) rfl (i_add 181 k) ?_
          refine Pv.ald (z := h_t S k) rfl (by rw [i_toNat (by omega)]; exact (fp_ne (Or.inl (by decide))).trans (hS.t _ (by omega))) ?_
          exact Pv.ret rfl (by rw [hQ]; exact ⟨by unfold a_man; rw [hm]; rfl, by unfold a_man; rw [hm]; rfl⟩)
        · refine Pv.tab (t := 110) rfl rfl ?_
          refine Pv.aload rfl rfl ?_
          refine Pv.iload rfl rfl ?_
          refine Pv.callVI (as := [.ref 69, .int (Int32.ofNat k)]) (rest := []) (z := b2i (!m_alive S k)) rfl rfl rfl (g_isDead (o := 0) (m := k) (hS.xd.fx (P := fun q => q = 69) (((FX.rf (P := fun q => q = 69))).fp rfl) (by decide)) (hG.fx (P := fun _ => True) (((FX.rf (P := fun _ => True))).fp trivial)) (by omega)) ?_
          refine Pv.if0 rfl (fun c6 => ?_) (fun c6 => ?_)
          · skip
            replace c6 := of_decide_eq_true c6
            replace c6 := b2z.mp c6
            refine Pv.lit rfl ?_
            exact Pv.ret rfl (by rw [hQ]; exact ⟨by unfold a_man; rw [hm]; exact q_al1 c6, by unfold a_man; rw [hm]; rfl⟩)
          · skip
            replace c6 := of_decide_eq_false c6
            replace c6 := b2n.mp c6
            refine Pv.lit rfl ?_
            refine Pv.goto rfl ?_
            exact Pv.ret rfl (by rw [hQ]; exact ⟨by unfold a_man; rw [hm]; exact q_al0 c6, by unfold a_man; rw [hm]; rfl⟩)
        · exact (q_y5 c3 hw).elim
      · skip
        replace c4 := mt (i_eq (a := 0) (b := 0) (by omega) (by omega)).mpr (of_decide_eq_false c4)
        omega
    · skip
      replace c3 : decide (b2i (decide (0 ≤ w) && decide (w ≤ 4)) = 0) = true := by simpa using c3
      replace c3 := of_decide_eq_true c3
      replace c3 := b2z.mp c3
      refine Pv.lit rfl ?_
      refine Pv.goto rfl ?_
      refine Pv.callVI (as := [.ref 69, .int 1]) (rest := []) (z := 1) rfl rfl rfl (q_throws1) ?_
      refine Pv.if0 rfl (fun c7 => ?_) (fun c7 => ?_)
      · skip
        replace c7 := (i_eq (a := 1) (b := 0) (by omega) (by omega)).mp (of_decide_eq_true c7)
        omega
      · skip
        replace c7 := mt (i_eq (a := 1) (b := 0) (by omega) (by omega)).mpr (of_decide_eq_false c7)
        refine Pv.lit rfl ?_
        exact Pv.ret rfl (by rw [hQ]; exact ⟨by unfold a_man; rw [hm, q_n5 c3]; rfl, by unfold a_man; rw [hm, q_n5 c3]; rfl⟩)
end
-- 63.b9zq.man.lean.txt
section
theorem l_man {F : FW} {t : Nat} {T : St} {S : Sh} (hG : GW F) (ht : F.2.1 0 13 = .ref t) (hT : TR F t T) (hS : SHR F 12 (t_m T) S) (j0 : t = 45 ∨ t = 53) (x w : Int32) : Pm Z_L_man [.ref 0, .int x, .int w, .ref 87] F (fun r F' => (a_man T S x w = none ∧ r = some (.int 1)) ∨ ∃ v, a_man T S x w = some v ∧ r = some (.int 0) ∧ F'.2.2.1 87 0 = v.toInt64) := by
  refine Pm.of fun N => ?_
  obtain ⟨Q, hQ⟩ : ∃ Q : Option Value → FW → Prop, Q = (fun r F' => (a_man T S x w = none ∧ r = some (.int 1)) ∨ ∃ v, a_man T S x w = some v ∧ r = some (.int 0) ∧ F'.2.2.1 87 0 = v.toInt64) := ⟨_, rfl⟩
  rw [← hQ]
  refine (show Pv (ab_T (L_L_man Z_X10_man)) N 0 [some (.ref 0), some (.int x), some (.int w), some (.ref 87), none] [] F Q from ?_)
  refine Pv.aload rfl rfl ?_
  refine Pv.lit rfl ?_
  refine Pv.aload rfl rfl ?_
  refine Pv.iload rfl rfl ?_
  refine Pv.iload rfl rfl ?_
  refine Pv.callX (as := [.ref 0, .int x, .int w]) (rest := [.int 0, .ref 87]) rfl rfl rfl (o_man hG ht hT hS j0 x w) (fun r F' hr q => ?_) (fun F' G q => ?_)
  · obtain ⟨e, rfl⟩ := q
    cases ea : a_man T S x w with
    | none =>
      rw [ea] at e
      exact absurd e hr
    | some v =>
      rw [ea] at e
      rw [e]
      refine (show Pv (ab_T (L_L_man Z_X10_man)) N 8 [some (.ref 0), some (.int x), some (.int w), some (.ref 87), none] [.int v, .int 0, .ref 87] F' Q from ?_)
      refine Pv.i2l (z := v.toInt64) rfl rfl ?_
      refine Pv.last rfl ?_
      refine Pv.goto rfl ?_
      refine Pv.lit rfl ?_
      exact Pv.ret rfl (by rw [hQ]; exact Or.inr ⟨v, ea, rfl, (show (if (87 : Nat) = 87 ∧ 0 = Int32.toNatClampNeg 0 then v.toInt64 else F'.2.2.1 87 0) = v.toInt64 from if_pos ⟨rfl, by decide⟩)⟩)
  · have e := q.1
    cases ea : a_man T S x w with
    | none =>
      refine Pv.lit rfl ?_
      exact Pv.ret rfl (by rw [hQ]; exact Or.inl ⟨ea, rfl⟩)
    | some v =>
      rw [ea] at e
      cases e
theorem gl_cl {hp hp' : ab_H} {a k : Nat} (e : hp'.2 a = hp.2 a) : (fl hp').2.2.1 a k = (fl hp).2.2.1 a k := by
  show gl hp' a k = gl hp a k
  unfold gl
  rw [e]
/-- man on both sides: thrown alike, answered alike -/
theorem lw_man {W : List (Nat × Nat × Nat)} {t t1 t2 : Nat → Nat} {hp hp1 hp2 : ab_H} {r1 r2 : Option Value} {D : DD} {x w : Int32} (H : sf_h t hp) (H1 : sf_h t1 hp1) (hC : CR (fl hp) D) (hX1 : XR (fl hp1) D) (y2 : sf_fr W t1 hp1 t2 hp2) (u : W.all (fun w => decide (w.1 ≠ 148)) = true) (x1 : sf_eqn Z_L_man [.ref 0, .int x, .int w, .ref 87] hp r1 hp1) (x2 : sf_eqn Z_X11_man [.ref 69, .int x, .int w] hp1 r2 hp2) : (r1 = some (.int 1) ∧ (fl hp2).1 69 0 = 1) ∨ ∃ v : Int32, r1 = some (.int 0) ∧ (fl hp2).1 69 0 = 0 ∧ r2 = some (.int v) ∧ (fl hp2).2.2.1 87 0 = v.toInt64 := by
  obtain ⟨t0, ht, hT, j0, -⟩ := hC.t
  have a := pE H (l_man hC.G ht hT hC.s j0 x w) x1
  obtain ⟨b1, b2⟩ := pE H1 (q_man hX1.T hX1.s hX1.G x w) x2
  obtain ⟨p1, p2⟩ := H1.2.2.1 148 87 rfl
  have e := y2.2.2.2.1 87 p1 (by rw [p2]; exact u)
  have c : (fl hp2).1 69 0 = oT (a_man (dT D) (dS D) x w) := by
    rw [b2]
    exact fp_eq
  rcases a with ⟨a1, a2⟩ | ⟨v, a1, a2, a3⟩
  · exact Or.inl ⟨a2, by rw [c, a1]; rfl⟩
  · exact Or.inr ⟨v, a2, by rw [c, a1]; rfl, by rw [b1, a1]; rfl, (gl_cl e).trans a3⟩
end
-- 63.b9zqb.thr.lean.txt
section
def kq_X11_thrown_6afe8b : sf_Q := ([(1, 11, 0)], [], some (0, 0, 0), [(1, 0, 0, 0, 1, 0)], [])
def kc_X11_thrown_6afe8b : List (Nat × sf_I) := [(0, 4, [1, 0]),
  (1, 23, [4, 11, 0]),
  (4, 35, [0, 0])]
def kd_X11_thrown_6afe8b : List (Nat × sf_D × sf_M) := [(0, ([(1, 11, 0)], [], [], 0, 0), (2, [])),
  (1, ([(1, 11, 0)], [(1, 11, 0)], [], 0, 0), (1, [])),
  (4, ([(1, 11, 0)], [(0, 0, 1)], [(1, 0, 0, 0, 1, 0), (1, 36002, 0, -2147483648, 2147483647, 0), (2, 0, 36002, 1, 0, 0)], 0, 0), (0, []))]
set_option maxRecDepth 100000 in
theorem kt_X11_thrown_6afe8b : sf_chk [] kq_X11_thrown_6afe8b 1 kc_X11_thrown_6afe8b kd_X11_thrown_6afe8b = true := by decide +kernel
set_option maxRecDepth 100000 in
theorem kl_X11_thrown_6afe8b : (kc_X11_thrown_6afe8b).map (fun c => (c.1, sf_den ([] : List sf_X) c.2)) = L_X11_thrown := rfl
theorem ct_X11_thrown_6afe8b : sf_ct kq_X11_thrown_6afe8b Z_X11_thrown := by
  have h := sf_meth (K := []) (E := []) (k := kq_X11_thrown_6afe8b) (nL := 1) (C := kc_X11_thrown_6afe8b) (D := kd_X11_thrown_6afe8b) (fun m k hk => match m, hk with
    | _ + 0, hk => (by cases hk)) kt_X11_thrown_6afe8b
  rw [kl_X11_thrown_6afe8b] at h
  exact h
/-! ===== man with what is thrown: the law's own case ===== -/
theorem bs_callSx {T : Nat → Option ab_A} {i j : Nat} {lo : List (Option Value)} {st : List Value} {u : Nat × Nat} {hp : ab_H} {Q : ab_O → Prop} {t : Nat → Nat} {K : sf_Q} {X : List Value → ab_H → Option ab_O} {E : List Value → ab_H → Option Value → ab_H → Prop} {nA mc ms MC MS : Nat} (as rest : List Value) (hT : T i = some (ab_nx j (ab_call nA X mc ms MC MS))) (hK : sf_cE K X E) (H : sf_h t hp) (hst : st = as.reverse ++ rest) (hn : as.length = nA) (hl : as.length = K.1.length) (hcat : (decide (ab_cats rest ≤ 8) && decide (u.1 + mc ≤ MC) && decide (u.2 + ms ≤ MS)) = true)
    (hj : ∀ (q : Nat) (k : sf_J), K.1[q]? = some k → sf_j t hp.1 k as[q]?) (hpre : sf_S (sf_v0 as hp) K.2.1) (h : ∀ r hp' t', sf_h t' hp' → sf_fr K.2.2.2.2 t hp t' hp' → sf_an t' hp'.1 K.2.2.1 r → sf_S (sf_v1 r as hp') K.2.2.2.1 → E as hp r hp' → Ev T j (lo, r.toList ++ rest, (u.1 + mc, u.2 + ms), hp') Q) : Ev T i (lo, st, u, hp) Q := by
  subst hst
  obtain ⟨r, hp', t', h1, h2, h3, h4, h5, h6⟩ := hK t hp as H hl hj hpre
  have e1 : ((as.reverse ++ rest).take nA).reverse = as := by rw [List.take_left' (by rw [List.length_reverse]; exact hn), List.reverse_reverse]
  have e2 : (as.reverse ++ rest).drop nA = rest := List.drop_left' (by rw [List.length_reverse]; exact hn)
  have hh := h r hp' t' h2 h3 h4 h5 h6
  refine Ev.call hT ?_ (by rw [e1]; exact h1) (by rw [e2]; exact hh)
  rw [e2, decide_eq_true (show nA ≤ (as.reverse ++ rest).length by rw [List.length_append, List.length_reverse, hn]; exact Nat.le_add_right _ _), Bool.true_and]
  exact hcat
set_option maxRecDepth 100000 in
theorem q_thrown {F : FW} : Pm Z_X11_thrown [.ref 69] F (fun r F' => r = some (.int (F.1 69 0)) ∧ F' = F) := by
  refine Pm.of fun N => ?_
  obtain ⟨Q, hQ⟩ : ∃ Q : Option Value → FW → Prop, Q = (fun r F' => r = some (.int (F.1 69 0)) ∧ F' = F) := ⟨_, rfl⟩
  rw [← hQ]
  refine (show Pv (ab_T L_X11_thrown) N 0 [some (.ref 69)] [] F Q from ?_)
  refine Pv.aload rfl rfl ?_
  refine Pv.getI (z := F.1 69 0) rfl rfl rfl ?_
  exact Pv.ret rfl (by rw [hQ]; exact ⟨rfl, rfl⟩)
theorem lw_thr {t : Nat → Nat} {hp hp' : ab_H} {r : Option Value} (H : sf_h t hp) (x : sf_eqn Z_X11_thrown [.ref 69] hp r hp') : r = some (.int ((fl hp).1 69 0)) ∧ fl hp' = fl hp := pE H q_thrown x
/-- the law's own array of one long -/
theorem lw_out {t : Nat → Nat} {hp : ab_H} (H : sf_h t hp) : 87 < hp.1 ∧ ∃ f : Nat → Int64, hp.2 87 = .inl (2, 1, .inr (.inl f)) ∧ ∀ q, (fl hp).2.2.1 87 q = f q := by
  obtain ⟨a, b⟩ := H.2.2.1 148 87 rfl
  obtain ⟨f, e⟩ := sf_larr H a b (by decide) rfl
  have e' : hp.2 87 = .inl (2, 1, .inr (.inl f)) := e
  refine ⟨a, f, e', fun q => ?_⟩
  show gl hp 87 q = f q
  unfold gl
  rw [e']
end
-- 64.fresh.lean.txt
section
/-! ===== the fresh heap ===== -/
def FLl : List ab_E := [
  .inr (10, [.ref 1, .ref 3, .ref 7, .ref 10, .ref 12, .ref 20, .ref 28, .ref 36, .ref 40, .ref 41, .ref 42, .ref 43, .ref 44, .ref 45, .ref 53, .ref 61, .ref 65, .int 0, .int 0]),
  .inr (8, [.ref 2, .int 0, .int 0]),
  .inl (0, 940, .inl (fun _ => 0)),
  .inr (9, [.ref 4, .ref 5, .ref 6, .int 0, .int 0, .int 0, .int 0, .int 0, .long 0, .int 0]),
  .inl (1, 901, .inl (fun _ => 0)),
  .inl (1, 901, .inl (fun _ => 0)),
  .inl (2, 901, .inr (.inl (fun _ => 0))),
  .inr (1, [.ref 8, .ref 9, .int 0, .int 0]),
  .inl (1, 6, .inl (fun _ => 0)),
  .inl (1, 6, .inl (fun _ => 0)),
  .inr (2, [.ref 11, .int 0]),
  .inl (5, 8, .inr (.inr (.inr (.inr (fun _ => none))))),
  .inr (6, [.ref 13, .ref 14, .ref 15, .ref 16, .ref 17, .ref 18, .ref 19, .int 0, .int 0, .int 0]),
  .inl (1, 12, .inl (fun _ => 0)),
  .inl (1, 12, .inl (fun _ => 0)),
  .inl (1, 12, .inl (fun _ => 0)),
  .inl (1, 12, .inl (fun _ => 0)),
  .inl (1, 8, .inl (fun _ => 0)),
  .inl (1, 8, .inl (fun _ => 0)),
  .inl (1, 64, .inl (fun _ => 0)),
  .inr (6, [.ref 21, .ref 22, .ref 23, .ref 24, .ref 25, .ref 26, .ref 27, .int 0, .int 0, .int 0]),
  .inl (1, 12, .inl (fun _ => 0)),
  .inl (1, 12, .inl (fun _ => 0)),
  .inl (1, 12, .inl (fun _ => 0)),
  .inl (1, 12, .inl (fun _ => 0)),
  .inl (1, 8, .inl (fun _ => 0)),
  .inl (1, 8, .inl (fun _ => 0)),
  .inl (1, 64, .inl (fun _ => 0)),
  .inr (6, [.ref 29, .ref 30, .ref 31, .ref 32, .ref 33, .ref 34, .ref 35, .int 0, .int 0, .int 0]),
  .inl (1, 12, .inl (fun _ => 0)),
  .inl (1, 12, .inl (fun _ => 0)),
  .inl (1, 12, .inl (fun _ => 0)),
  .inl (1, 12, .inl (fun _ => 0)),
  .inl (1, 8, .inl (fun _ => 0)),
  .inl (1, 8, .inl (fun _ => 0)),
  .inl (1, 64, .inl (fun _ => 0)),
  .inr (4, [.ref 37, .ref 38, .ref 39, .int 0]),
  .inl (1, 40, .inl (fun _ => 0)),
  .inl (1, 40, .inl (fun _ => 0)),
  .inl (1, 40, .inl (fun _ => 0)),
  .inr (0, [.int 0]),
  .inl (4, 2, .inr (.inr (.inr (.inr (fun _ => none))))),
  .inl (1, 12, .inl (fun _ => 0)),
  .inl (1, 60, .inl (fun _ => 0)),
  .inl (1, 4, .inl (upd (upd (upd (upd (fun _ => 0) 0 (-1)) 1 (-1)) 2 (-1)) 3 (-1))),
  .inr (7, [.ref 46, .ref 47, .ref 48, .ref 49, .ref 50, .ref 51, .ref 52, .int 10, .int 0, .int 0, .int 0, .int 0, .long 0]),
  .inl (2, 6, .inr (.inl (fun _ => 0))),
  .inl (2, 8, .inr (.inl (fun _ => 0))),
  .inl (1, 8, .inl (fun _ => 0)),
  .inl (1, 48, .inl (fun _ => 0)),
  .inl (1, 20, .inl (fun _ => 0)),
  .inl (1, 20, .inl (fun _ => 0)),
  .inl (1, 20, .inl (fun _ => 0)),
  .inr (7, [.ref 54, .ref 55, .ref 56, .ref 57, .ref 58, .ref 59, .ref 60, .int 10, .int 0, .int 0, .int 0, .int 0, .long 0]),
  .inl (2, 6, .inr (.inl (fun _ => 0))),
  .inl (2, 8, .inr (.inl (fun _ => 0))),
  .inl (1, 8, .inl (fun _ => 0)),
  .inl (1, 48, .inl (fun _ => 0)),
  .inl (1, 20, .inl (fun _ => 0)),
  .inl (1, 20, .inl (fun _ => 0)),
  .inl (1, 20, .inl (fun _ => 0)),
  .inr (5, [.ref 62, .ref 63, .ref 64, .int 0, .int 0, .int 0]),
  .inl (1, 40, .inl (fun _ => 0)),
  .inl (1, 40, .inl (fun _ => 0)),
  .inl (1, 40, .inl (fun _ => 0)),
  .inr (5, [.ref 66, .ref 67, .ref 68, .int 0, .int 0, .int 0]),
  .inl (1, 40, .inl (fun _ => 0)),
  .inl (1, 40, .inl (fun _ => 0)),
  .inl (1, 40, .inl (fun _ => 0)),
  .inr (11, [.int 0, .ref 70, .int 0, .int 0, .int 0, .int 0, .ref 71, .ref 72, .ref 73, .ref 74, .ref 75, .int 0, .int 0, .int 0, .int 0, .int 0, .int 0, .long 0, .int 0, .int 0, .int 0, .ref 76, .int 0, .ref 77, .ref 78, .int 0, .ref 79, .ref 80, .int (-1), .int 0, .int 0, .ref 81, .int 0, .ref 82, .int 0, .int 0, .int 0, .int 0, .int 0, .ref 83, .ref 84, .ref 85, .ref 86]),
  .inl (0, 940, .inl (fun _ => 0)),
  .inl (1, 434, .inl (upd (fun _ => 0) 2 10)),
  .inl (1, 120, .inl (fun _ => 0)),
  .inl (1, 160, .inl (fun _ => 0)),
  .inl (2, 28, .inr (.inl (fun _ => 0))),
  .inl (2, 25, .inr (.inl (vp_updL (vp_updL (vp_updL (vp_updL (vp_updL (vp_updL (vp_updL (vp_updL (vp_updL (vp_updL (vp_updL (vp_updL (vp_updL (vp_updL (vp_updL (vp_updL (vp_updL (vp_updL (vp_updL (vp_updL (vp_updL (vp_updL (vp_updL (vp_updL (vp_updL (fun _ => 0) 0 1819238756) 1 1735356260) 2 495874696043) 3 512735736947) 4 1700885619) 5 469785863539) 6 7168366) 7 120299675936115) 8 114827585545331) 9 422541682035) 10 131260432541043) 11 1684628851) 12 6578553) 13 28530) 14 6385252) 15 7237492) 16 119165535610212) 17 29395861899601252) 18 1835099237) 19 435426714990) 20 439721161573) 21 1852137842) 22 6709618) 23 27991845698233700) 24 121450625394034))),
  .inl (1, 4, .inl (fun _ => 0)),
  .inl (1, 1064, .inl (fun _ => 0)),
  .inl (1, 133, .inl (fun _ => 0)),
  .inl (1, 60, .inl (fun _ => 0)),
  .inl (1, 12, .inl (fun _ => 0)),
  .inl (1, 4, .inl (fun _ => 0)),
  .inl (1, 45, .inl (fun _ => 0)),
  .inl (3, 45, .inl (fun _ => 0)),
  .inl (1, 868, .inl (fun _ => 0)),
  .inl (2, 28, .inr (.inl (fun _ => 0))),
  .inl (3, 2, .inl (fun _ => 0)),
  .inl (2, 1, .inr (.inl (fun _ => 0)))]
def FL (n k : Nat) : ab_E := cond (decide (k < n)) ((FLl[k]?).getD (ab_h0 k)) (ab_h0 k)
set_option maxRecDepth 100000 in
set_option maxHeartbeats 4000000 in
theorem fr_X10 : Z_X10_init [.ref 0] (ab_push (0, ab_h0) (.inr (10, [.null, .null, .null, .null, .null, .null, .null, .null, .null, .null, .null, .null, .null, .null, .null, .null, .null, .int 0, .int 0]))) = some (none, (69, FL 69)) := by
  refine ab_X_eq (Nat.le_of_ble_eq_true rfl) ?_
  refine Ev.step rfl rfl ?_
  refine Ev.step rfl rfl ?_
  refine Ev.step rfl rfl ?_
  refine Ev.step rfl rfl ?_
  refine Ev.step rfl rfl ?_
  refine Ev.inlS (L := L_X8_init) (nL := 1) rfl rfl (Nat.le_of_ble_eq_true rfl) ?_
  refine Ev.step rfl rfl ?_
  refine Ev.step rfl rfl ?_
  refine Ev.step rfl rfl ?_
  refine Ev.step rfl rfl ?_
  refine Ev.step rfl rfl ?_
  refine Ev.step rfl rfl ?_
  refine Ev.ret rfl rfl ?_
  refine (show Ev _ 12 _ _ from ?_)
  refine Ev.step rfl rfl ?_
  refine Ev.step rfl rfl ?_
  refine Ev.step rfl rfl ?_
  refine Ev.step rfl rfl ?_
  refine Ev.inlS (L := L_X9_init) (nL := 1) rfl rfl (Nat.le_of_ble_eq_true rfl) ?_
  refine Ev.step rfl rfl ?_
  refine Ev.step rfl rfl ?_
  refine Ev.step rfl rfl ?_
  refine Ev.step rfl rfl ?_
  refine Ev.step rfl rfl ?_
  refine Ev.step rfl rfl ?_
  refine Ev.step rfl rfl ?_
  refine Ev.step rfl rfl ?_
  refine Ev.step rfl rfl ?_
  refine Ev.step rfl rfl ?_
  refine Ev.step rfl rfl ?_
  refine Ev.step rfl rfl ?_
  refine Ev.step rfl rfl ?_
  refine Ev.step rfl rfl ?_
  refine Ev.ret rfl rfl ?_
  refine (show Ev _ 23 _ _ from ?_)
  refine Ev.step rfl rfl ?_
  refine Ev.step rfl rfl ?_
  refine Ev.step rfl rfl ?_
  refine Ev.step rfl rfl ?_
  refine Ev.inlS (L := L_X1_init) (nL := 1) rfl rfl (Nat.le_of_ble_eq_true rfl) ?_
  refine Ev.step rfl rfl ?_
  refine Ev.step rfl rfl ?_
  refine Ev.step rfl rfl ?_
  refine Ev.step rfl rfl ?_
  refine Ev.step rfl rfl ?_
  refine Ev.step rfl rfl ?_
  refine Ev.step rfl rfl ?_
  refine Ev.step rfl rfl ?_
  refine Ev.step rfl rfl ?_
  refine Ev.step rfl rfl ?_
  refine Ev.ret rfl rfl ?_
  refine (show Ev _ 34 _ _ from ?_)
  refine Ev.step rfl rfl ?_
  refine Ev.step rfl rfl ?_
  refine Ev.step rfl rfl ?_
  refine Ev.step rfl rfl ?_
  refine Ev.inlS (L := L_X2_init) (nL := 1) rfl rfl (Nat.le_of_ble_eq_true rfl) ?_
  refine Ev.step rfl rfl ?_
  refine Ev.step rfl rfl ?_
  refine Ev.step rfl rfl ?_
  refine Ev.step rfl rfl ?_
  refine Ev.step rfl rfl ?_
  refine Ev.step rfl rfl ?_
  refine Ev.ret rfl rfl ?_
  refine (show Ev _ 45 _ _ from ?_)
  refine Ev.step rfl rfl ?_
  refine Ev.step rfl rfl ?_
  refine Ev.step rfl rfl ?_
  refine Ev.step rfl rfl ?_
  refine Ev.inlS (L := L_X6_init) (nL := 1) rfl rfl (Nat.le_of_ble_eq_true rfl) ?_
  refine Ev.step rfl rfl ?_
  refine Ev.step rfl rfl ?_
  refine Ev.step rfl rfl ?_
  refine Ev.step rfl rfl ?_
  refine Ev.step rfl rfl ?_
  refine Ev.step rfl rfl ?_
  refine Ev.step rfl rfl ?_
  refine Ev.step rfl rfl ?_
  refine Ev.step rfl rfl ?_
  refine Ev.step rfl rfl ?_
  refine Ev.step rfl rfl ?_
  refine Ev.step rfl rfl ?_
  refine Ev.step rfl rfl ?_
  refine Ev.step rfl rfl ?_
  refine Ev.step rfl rfl ?_
  refine Ev.step rfl rfl ?_
  refine Ev.step rfl rfl ?_
  refine Ev.step rfl rfl ?_
  refine Ev.step rfl rfl ?_
  refine Ev.step rfl rfl ?_
  refine Ev.step rfl rfl ?_
  refine Ev.step rfl rfl ?_
  refine Ev.step rfl rfl ?_
  refine Ev.step rfl rfl ?_
  refine Ev.step rfl rfl ?_
  refine Ev.step rfl rfl ?_
  refine Ev.step rfl rfl ?_
  refine Ev.step rfl rfl ?_
  refine Ev.step rfl rfl ?_
  refine Ev.step rfl rfl ?_
  refine Ev.ret rfl rfl ?_
  refine (show Ev _ 56 _ _ from ?_)
  refine Ev.step rfl rfl ?_
  refine Ev.step rfl rfl ?_
  refine Ev.step rfl rfl ?_
  refine Ev.step rfl rfl ?_
  refine Ev.inlS (L := L_X6_init) (nL := 1) rfl rfl (Nat.le_of_ble_eq_true rfl) ?_
  refine Ev.step rfl rfl ?_
  refine Ev.step rfl rfl ?_
  refine Ev.step rfl rfl ?_
  refine Ev.step rfl rfl ?_
  refine Ev.step rfl rfl ?_
  refine Ev.step rfl rfl ?_
  refine Ev.step rfl rfl ?_
  refine Ev.step rfl rfl ?_
  refine Ev.step rfl rfl ?_
  refine Ev.step rfl rfl ?_
  refine Ev.step rfl rfl ?_
  refine Ev.step rfl rfl ?_
  refine Ev.step rfl rfl ?_
  refine Ev.step rfl rfl ?_
  refine Ev.step rfl rfl ?_
  refine Ev.step rfl rfl ?_
  refine Ev.step rfl rfl ?_
  refine Ev.step rfl rfl ?_
  refine Ev.step rfl rfl ?_
  refine Ev.step rfl rfl ?_
  refine Ev.step rfl rfl ?_
  refine Ev.step rfl rfl ?_
  refine Ev.step rfl rfl ?_
  refine Ev.step rfl rfl ?_
  refine Ev.step rfl rfl ?_
  refine Ev.step rfl rfl ?_
  refine Ev.step rfl rfl ?_
  refine Ev.step rfl rfl ?_
  refine Ev.step rfl rfl ?_
  refine Ev.step rfl rfl ?_
  refine Ev.ret rfl rfl ?_
  refine (show Ev _ 67 _ _ from ?_)
  refine Ev.step rfl rfl ?_
  refine Ev.step rfl rfl ?_
  refine Ev.step rfl rfl ?_
  refine Ev.step rfl rfl ?_
  refine Ev.inlS (L := L_X6_init) (nL := 1) rfl rfl (Nat.le_of_ble_eq_true rfl) ?_
  refine Ev.step rfl rfl ?_
  refine Ev.step rfl rfl ?_
  refine Ev.step rfl rfl ?_
  refine Ev.step rfl rfl ?_
  refine Ev.step rfl rfl ?_
  refine Ev.step rfl rfl ?_
  refine Ev.step rfl rfl ?_
  refine Ev.step rfl rfl ?_
  refine Ev.step rfl rfl ?_
  refine Ev.step rfl rfl ?_
  refine Ev.step rfl rfl ?_
  refine Ev.step rfl rfl ?_
  refine Ev.step rfl rfl ?_
  refine Ev.step rfl rfl ?_
  refine Ev.step rfl rfl ?_
  refine Ev.step rfl rfl ?_
  refine Ev.step rfl rfl ?_
  refine Ev.step rfl rfl ?_
  refine Ev.step rfl rfl ?_
  refine Ev.step rfl rfl ?_
  refine Ev.step rfl rfl ?_
  refine Ev.step rfl rfl ?_
  refine Ev.step rfl rfl ?_
  refine Ev.step rfl rfl ?_
  refine Ev.step rfl rfl ?_
  refine Ev.step rfl rfl ?_
  refine Ev.step rfl rfl ?_
  refine Ev.step rfl rfl ?_
  refine Ev.step rfl rfl ?_
  refine Ev.step rfl rfl ?_
  refine Ev.ret rfl rfl ?_
  refine (show Ev _ 78 _ _ from ?_)
  refine Ev.step rfl rfl ?_
  refine Ev.step rfl rfl ?_
  refine Ev.step rfl rfl ?_
  refine Ev.step rfl rfl ?_
  refine Ev.inlS (L := L_X4_init) (nL := 1) rfl rfl (Nat.le_of_ble_eq_true rfl) ?_
  refine Ev.step rfl rfl ?_
  refine Ev.step rfl rfl ?_
  refine Ev.step rfl rfl ?_
  refine Ev.step rfl rfl ?_
  refine Ev.step rfl rfl ?_
  refine Ev.step rfl rfl ?_
  refine Ev.step rfl rfl ?_
  refine Ev.step rfl rfl ?_
  refine Ev.step rfl rfl ?_
  refine Ev.step rfl rfl ?_
  refine Ev.step rfl rfl ?_
  refine Ev.step rfl rfl ?_
  refine Ev.step rfl rfl ?_
  refine Ev.step rfl rfl ?_
  refine Ev.ret rfl rfl ?_
  refine (show Ev _ 89 _ _ from ?_)
  refine Ev.step rfl rfl ?_
  refine Ev.step rfl rfl ?_
  refine Ev.step rfl rfl ?_
  refine Ev.step rfl rfl ?_
  refine Ev.inlS (L := L_X0_init) (nL := 1) rfl rfl (Nat.le_of_ble_eq_true rfl) ?_
  refine Ev.step rfl rfl ?_
  refine Ev.step rfl rfl ?_
  refine Ev.ret rfl rfl ?_
  refine (show Ev _ 100 _ _ from ?_)
  refine Ev.step rfl rfl ?_
  refine Ev.step rfl rfl ?_
  refine Ev.step rfl rfl ?_
  refine Ev.step rfl rfl ?_
  refine Ev.step rfl rfl ?_
  refine Ev.step rfl rfl ?_
  refine Ev.step rfl rfl ?_
  refine Ev.step rfl rfl ?_
  refine Ev.step rfl rfl ?_
  refine Ev.step rfl rfl ?_
  refine Ev.step rfl rfl ?_
  refine Ev.step rfl rfl ?_
  refine Ev.step rfl rfl ?_
  refine Ev.step rfl rfl ?_
  refine Ev.step rfl rfl ?_
  refine Ev.step rfl rfl ?_
  refine Ev.step rfl rfl ?_
  refine Ev.step rfl rfl ?_
  refine Ev.step rfl rfl ?_
  refine Ev.step rfl rfl ?_
  refine Ev.step rfl rfl ?_
  refine Ev.step rfl rfl ?_
  refine Ev.step rfl rfl ?_
  refine Ev.step rfl rfl ?_
  refine Ev.step rfl rfl ?_
  refine Ev.step rfl rfl ?_
  refine Ev.step rfl rfl ?_
  refine Ev.step rfl rfl ?_
  refine Ev.step rfl rfl ?_
  refine Ev.step rfl rfl ?_
  refine Ev.step rfl rfl ?_
  refine Ev.step rfl rfl ?_
  refine Ev.step rfl rfl ?_
  refine Ev.step rfl rfl ?_
  refine Ev.step rfl rfl ?_
  refine Ev.step rfl rfl ?_
  refine Ev.inlS (L := L_X7_init) (nL := 1) rfl rfl (Nat.le_of_ble_eq_true rfl) ?_
  refine Ev.step rfl rfl ?_
  refine Ev.step rfl rfl ?_
  refine Ev.step rfl rfl ?_
  refine Ev.step rfl rfl ?_
  refine Ev.step rfl rfl ?_
  refine Ev.step rfl rfl ?_
  refine Ev.step rfl rfl ?_
  refine Ev.step rfl rfl ?_
  refine Ev.step rfl rfl ?_
  refine Ev.step rfl rfl ?_
  refine Ev.step rfl rfl ?_
  refine Ev.step rfl rfl ?_
  refine Ev.step rfl rfl ?_
  refine Ev.step rfl rfl ?_
  refine Ev.step rfl rfl ?_
  refine Ev.step rfl rfl ?_
  refine Ev.step rfl rfl ?_
  refine Ev.step rfl rfl ?_
  refine Ev.step rfl rfl ?_
  refine Ev.step rfl rfl ?_
  refine Ev.step rfl rfl ?_
  refine Ev.step rfl rfl ?_
  refine Ev.step rfl rfl ?_
  refine Ev.step rfl rfl ?_
  refine Ev.step rfl rfl ?_
  refine Ev.step rfl rfl ?_
  refine Ev.step rfl rfl ?_
  refine Ev.step rfl rfl ?_
  refine Ev.step rfl rfl ?_
  refine Ev.step rfl rfl ?_
  refine Ev.step rfl rfl ?_
  refine Ev.step rfl rfl ?_
  refine Ev.step rfl rfl ?_
  refine Ev.ret rfl rfl ?_
  refine (show Ev _ 158 _ _ from ?_)
  refine Ev.step rfl rfl ?_
  refine Ev.step rfl rfl ?_
  refine Ev.step rfl rfl ?_
  refine Ev.step rfl rfl ?_
  refine Ev.inlS (L := L_X7_init) (nL := 1) rfl rfl (Nat.le_of_ble_eq_true rfl) ?_
  refine Ev.step rfl rfl ?_
  refine Ev.step rfl rfl ?_
  refine Ev.step rfl rfl ?_
  refine Ev.step rfl rfl ?_
  refine Ev.step rfl rfl ?_
  refine Ev.step rfl rfl ?_
  refine Ev.step rfl rfl ?_
  refine Ev.step rfl rfl ?_
  refine Ev.step rfl rfl ?_
  refine Ev.step rfl rfl ?_
  refine Ev.step rfl rfl ?_
  refine Ev.step rfl rfl ?_
  refine Ev.step rfl rfl ?_
  refine Ev.step rfl rfl ?_
  refine Ev.step rfl rfl ?_
  refine Ev.step rfl rfl ?_
  refine Ev.step rfl rfl ?_
  refine Ev.step rfl rfl ?_
  refine Ev.step rfl rfl ?_
  refine Ev.step rfl rfl ?_
  refine Ev.step rfl rfl ?_
  refine Ev.step rfl rfl ?_
  refine Ev.step rfl rfl ?_
  refine Ev.step rfl rfl ?_
  refine Ev.step rfl rfl ?_
  refine Ev.step rfl rfl ?_
  refine Ev.step rfl rfl ?_
  refine Ev.step rfl rfl ?_
  refine Ev.step rfl rfl ?_
  refine Ev.step rfl rfl ?_
  refine Ev.step rfl rfl ?_
  refine Ev.step rfl rfl ?_
  refine Ev.step rfl rfl ?_
  refine Ev.ret rfl rfl ?_
  refine (show Ev _ 169 _ _ from ?_)
  refine Ev.step rfl rfl ?_
  refine Ev.step rfl rfl ?_
  refine Ev.step rfl rfl ?_
  refine Ev.step rfl rfl ?_
  refine Ev.inlS (L := L_X5_init) (nL := 1) rfl rfl (Nat.le_of_ble_eq_true rfl) ?_
  refine Ev.step rfl rfl ?_
  refine Ev.step rfl rfl ?_
  refine Ev.step rfl rfl ?_
  refine Ev.step rfl rfl ?_
  refine Ev.step rfl rfl ?_
  refine Ev.step rfl rfl ?_
  refine Ev.step rfl rfl ?_
  refine Ev.step rfl rfl ?_
  refine Ev.step rfl rfl ?_
  refine Ev.step rfl rfl ?_
  refine Ev.step rfl rfl ?_
  refine Ev.step rfl rfl ?_
  refine Ev.step rfl rfl ?_
  refine Ev.step rfl rfl ?_
  refine Ev.ret rfl rfl ?_
  refine (show Ev _ 180 _ _ from ?_)
  refine Ev.step rfl rfl ?_
  refine Ev.step rfl rfl ?_
  refine Ev.step rfl rfl ?_
  refine Ev.step rfl rfl ?_
  refine Ev.inlS (L := L_X5_init) (nL := 1) rfl rfl (Nat.le_of_ble_eq_true rfl) ?_
  refine Ev.step rfl rfl ?_
  refine Ev.step rfl rfl ?_
  refine Ev.step rfl rfl ?_
  refine Ev.step rfl rfl ?_
  refine Ev.step rfl rfl ?_
  refine Ev.step rfl rfl ?_
  refine Ev.step rfl rfl ?_
  refine Ev.step rfl rfl ?_
  refine Ev.step rfl rfl ?_
  refine Ev.step rfl rfl ?_
  refine Ev.step rfl rfl ?_
  refine Ev.step rfl rfl ?_
  refine Ev.step rfl rfl ?_
  refine Ev.step rfl rfl ?_
  refine Ev.ret rfl rfl ?_
  refine (show Ev _ 191 _ _ from ?_)
  refine Ev.step rfl rfl ?_
  refine Ev.ret rfl rfl ?_
  refine Prod.ext rfl (Prod.ext rfl (funext fun k => ?_))
  match k with
  | 0 => rfl
  | 1 => rfl
  | 2 => rfl
  | 3 => rfl
  | 4 => rfl
  | 5 => rfl
  | 6 => rfl
  | 7 => rfl
  | 8 => rfl
  | 9 => rfl
  | 10 => rfl
  | 11 => rfl
  | 12 => rfl
  | 13 => rfl
  | 14 => rfl
  | 15 => rfl
  | 16 => rfl
  | 17 => rfl
  | 18 => rfl
  | 19 => rfl
  | 20 => rfl
  | 21 => rfl
  | 22 => rfl
  | 23 => rfl
  | 24 => rfl
  | 25 => rfl
  | 26 => rfl
  | 27 => rfl
  | 28 => rfl
  | 29 => rfl
  | 30 => rfl
  | 31 => rfl
  | 32 => rfl
  | 33 => rfl
  | 34 => rfl
  | 35 => rfl
  | 36 => rfl
  | 37 => rfl
  | 38 => rfl
  | 39 => rfl
  | 40 => rfl
  | 41 => rfl
  | 42 => rfl
  | 43 => rfl
  | 44 => rfl
  | 45 => rfl
  | 46 => rfl
  | 47 => rfl
  | 48 => rfl
  | 49 => rfl
  | 50 => rfl
  | 51 => rfl
  | 52 => rfl
  | 53 => rfl
  | 54 => rfl
  | 55 => rfl
  | 56 => rfl
  | 57 => rfl
  | 58 => rfl
  | 59 => rfl
  | 60 => rfl
  | 61 => rfl
  | 62 => rfl
  | 63 => rfl
  | 64 => rfl
  | 65 => rfl
  | 66 => rfl
  | 67 => rfl
  | 68 => rfl
  | k + 69 => rfl
set_option maxRecDepth 100000 in
set_option maxHeartbeats 4000000 in
theorem fr_X11 : Z_X11_init [.ref 69] (ab_push (69, FL 69) (.inr (11, [.int 0, .null, .int 0, .int 0, .int 0, .int 0, .null, .null, .null, .null, .null, .int 0, .int 0, .int 0, .int 0, .int 0, .int 0, .long 0, .int 0, .int 0, .int 0, .null, .int 0, .null, .null, .int 0, .null, .null, .int 0, .int 0, .int 0, .null, .int 0, .null, .int 0, .int 0, .int 0, .int 0, .int 0, .null, .null, .null, .null]))) = some (none, (87, FL 87)) := by
  refine ab_X_eq (Nat.le_of_ble_eq_true rfl) ?_
  refine Ev.step rfl rfl ?_
  refine Ev.step rfl rfl ?_
  refine Ev.step rfl rfl ?_
  refine Ev.step rfl rfl ?_
  refine Ev.step rfl rfl ?_
  refine Ev.step rfl rfl ?_
  refine Ev.step rfl rfl ?_
  refine Ev.step rfl rfl ?_
  refine Ev.step rfl rfl ?_
  refine Ev.step rfl rfl ?_
  refine Ev.step rfl rfl ?_
  refine Ev.step rfl rfl ?_
  refine Ev.step rfl rfl ?_
  refine Ev.step rfl rfl ?_
  refine Ev.step rfl rfl ?_
  refine Ev.step rfl rfl ?_
  refine Ev.step rfl rfl ?_
  refine Ev.step rfl rfl ?_
  refine Ev.step rfl rfl ?_
  refine Ev.step rfl rfl ?_
  refine Ev.step rfl rfl ?_
  refine Ev.step rfl rfl ?_
  refine Ev.step rfl rfl ?_
  refine Ev.step rfl rfl ?_
  refine Ev.step rfl rfl ?_
  refine Ev.step rfl rfl ?_
  refine Ev.step rfl rfl ?_
  refine Ev.step rfl rfl ?_
  refine Ev.step rfl rfl ?_
  refine Ev.step rfl rfl ?_
  refine Ev.step rfl rfl ?_
  refine Ev.step rfl rfl ?_
  refine Ev.step rfl rfl ?_
  refine Ev.step rfl rfl ?_
  refine Ev.step rfl rfl ?_
  refine Ev.step rfl rfl ?_
  refine Ev.step rfl rfl ?_
  refine Ev.step rfl rfl ?_
  refine Ev.step rfl rfl ?_
  refine Ev.step rfl rfl ?_
  refine Ev.step rfl rfl ?_
  refine Ev.step rfl rfl ?_
  refine Ev.step rfl rfl ?_
  refine Ev.step rfl rfl ?_
  refine Ev.step rfl rfl ?_
  refine Ev.step rfl rfl ?_
  refine Ev.step rfl rfl ?_
  refine Ev.step rfl rfl ?_
  refine Ev.step rfl rfl ?_
  refine Ev.step rfl rfl ?_
  refine Ev.step rfl rfl ?_
  refine Ev.step rfl rfl ?_
  refine Ev.step rfl rfl ?_
  refine Ev.step rfl rfl ?_
  refine Ev.step rfl rfl ?_
  refine Ev.step rfl rfl ?_
  refine Ev.step rfl rfl ?_
  refine Ev.step rfl rfl ?_
  refine Ev.step rfl rfl ?_
  refine Ev.step rfl rfl ?_
  refine Ev.step rfl rfl ?_
  refine Ev.step rfl rfl ?_
  refine Ev.step rfl rfl ?_
  refine Ev.step rfl rfl ?_
  refine Ev.step rfl rfl ?_
  refine Ev.step rfl rfl ?_
  refine Ev.step rfl rfl ?_
  refine Ev.step rfl rfl ?_
  refine Ev.step rfl rfl ?_
  refine Ev.step rfl rfl ?_
  refine Ev.step rfl rfl ?_
  refine Ev.step rfl rfl ?_
  refine Ev.step rfl rfl ?_
  refine Ev.step rfl rfl ?_
  refine Ev.step rfl rfl ?_
  refine Ev.step rfl rfl ?_
  refine Ev.step rfl rfl ?_
  refine Ev.step rfl rfl ?_
  refine Ev.step rfl rfl ?_
  refine Ev.step rfl rfl ?_
  refine Ev.step rfl rfl ?_
  refine Ev.step rfl rfl ?_
  refine Ev.step rfl rfl ?_
  refine Ev.step rfl rfl ?_
  refine Ev.step rfl rfl ?_
  refine Ev.step rfl rfl ?_
  refine Ev.step rfl rfl ?_
  refine Ev.step rfl rfl ?_
  refine Ev.step rfl rfl ?_
  refine Ev.step rfl rfl ?_
  refine Ev.step rfl rfl ?_
  refine Ev.step rfl rfl ?_
  refine Ev.step rfl rfl ?_
  refine Ev.step rfl rfl ?_
  refine Ev.step rfl rfl ?_
  refine Ev.step rfl rfl ?_
  refine Ev.step rfl rfl ?_
  refine Ev.step rfl rfl ?_
  refine Ev.step rfl rfl ?_
  refine Ev.step rfl rfl ?_
  refine Ev.step rfl rfl ?_
  refine Ev.step rfl rfl ?_
  refine Ev.step rfl rfl ?_
  refine Ev.step rfl rfl ?_
  refine Ev.step rfl rfl ?_
  refine Ev.step rfl rfl ?_
  refine Ev.step rfl rfl ?_
  refine Ev.step rfl rfl ?_
  refine Ev.step rfl rfl ?_
  refine Ev.step rfl rfl ?_
  refine Ev.step rfl rfl ?_
  refine Ev.step rfl rfl ?_
  refine Ev.step rfl rfl ?_
  refine Ev.step rfl rfl ?_
  refine Ev.step rfl rfl ?_
  refine Ev.step rfl rfl ?_
  refine Ev.step rfl rfl ?_
  refine Ev.step rfl rfl ?_
  refine Ev.step rfl rfl ?_
  refine Ev.step rfl rfl ?_
  refine Ev.step rfl rfl ?_
  refine Ev.step rfl rfl ?_
  refine Ev.step rfl rfl ?_
  refine Ev.step rfl rfl ?_
  refine Ev.step rfl rfl ?_
  refine Ev.step rfl rfl ?_
  refine Ev.step rfl rfl ?_
  refine Ev.step rfl rfl ?_
  refine Ev.step rfl rfl ?_
  refine Ev.step rfl rfl ?_
  refine Ev.step rfl rfl ?_
  refine Ev.step rfl rfl ?_
  refine Ev.step rfl rfl ?_
  refine Ev.step rfl rfl ?_
  refine Ev.step rfl rfl ?_
  refine Ev.step rfl rfl ?_
  refine Ev.step rfl rfl ?_
  refine Ev.step rfl rfl ?_
  refine Ev.step rfl rfl ?_
  refine Ev.step rfl rfl ?_
  refine Ev.step rfl rfl ?_
  refine Ev.step rfl rfl ?_
  refine Ev.step rfl rfl ?_
  refine Ev.step rfl rfl ?_
  refine Ev.step rfl rfl ?_
  refine Ev.step rfl rfl ?_
  refine Ev.step rfl rfl ?_
  refine Ev.step rfl rfl ?_
  refine Ev.step rfl rfl ?_
  refine Ev.step rfl rfl ?_
  refine Ev.step rfl rfl ?_
  refine Ev.step rfl rfl ?_
  refine Ev.step rfl rfl ?_
  refine Ev.step rfl rfl ?_
  refine Ev.step rfl rfl ?_
  refine Ev.step rfl rfl ?_
  refine Ev.step rfl rfl ?_
  refine Ev.step rfl rfl ?_
  refine Ev.step rfl rfl ?_
  refine Ev.step rfl rfl ?_
  refine Ev.step rfl rfl ?_
  refine Ev.step rfl rfl ?_
  refine Ev.step rfl rfl ?_
  refine Ev.step rfl rfl ?_
  refine Ev.step rfl rfl ?_
  refine Ev.step rfl rfl ?_
  refine Ev.step rfl rfl ?_
  refine Ev.step rfl rfl ?_
  refine Ev.step rfl rfl ?_
  refine Ev.step rfl rfl ?_
  refine Ev.step rfl rfl ?_
  refine Ev.step rfl rfl ?_
  refine Ev.step rfl rfl ?_
  refine Ev.step rfl rfl ?_
  refine Ev.step rfl rfl ?_
  refine Ev.step rfl rfl ?_
  refine Ev.step rfl rfl ?_
  refine Ev.step rfl rfl ?_
  refine Ev.step rfl rfl ?_
  refine Ev.step rfl rfl ?_
  refine Ev.step rfl rfl ?_
  refine Ev.step rfl rfl ?_
  refine Ev.step rfl rfl ?_
  refine Ev.step rfl rfl ?_
  refine Ev.step rfl rfl ?_
  refine Ev.step rfl rfl ?_
  refine Ev.step rfl rfl ?_
  refine Ev.step rfl rfl ?_
  refine Ev.step rfl rfl ?_
  refine Ev.step rfl rfl ?_
  refine Ev.step rfl rfl ?_
  refine Ev.step rfl rfl ?_
  refine Ev.step rfl rfl ?_
  refine Ev.step rfl rfl ?_
  refine Ev.step rfl rfl ?_
  refine Ev.step rfl rfl ?_
  refine Ev.step rfl rfl ?_
  refine Ev.step rfl rfl ?_
  refine Ev.step rfl rfl ?_
  refine Ev.step rfl rfl ?_
  refine Ev.step rfl rfl ?_
  refine Ev.step rfl rfl ?_
  refine Ev.step rfl rfl ?_
  refine Ev.ret rfl rfl ?_
  refine Prod.ext rfl (Prod.ext rfl (funext fun k => ?_))
  match k with
  | 0 => rfl
  | 1 => rfl
  | 2 => rfl
  | 3 => rfl
  | 4 => rfl
  | 5 => rfl
  | 6 => rfl
  | 7 => rfl
  | 8 => rfl
  | 9 => rfl
  | 10 => rfl
  | 11 => rfl
  | 12 => rfl
  | 13 => rfl
  | 14 => rfl
  | 15 => rfl
  | 16 => rfl
  | 17 => rfl
  | 18 => rfl
  | 19 => rfl
  | 20 => rfl
  | 21 => rfl
  | 22 => rfl
  | 23 => rfl
  | 24 => rfl
  | 25 => rfl
  | 26 => rfl
  | 27 => rfl
  | 28 => rfl
  | 29 => rfl
  | 30 => rfl
  | 31 => rfl
  | 32 => rfl
  | 33 => rfl
  | 34 => rfl
  | 35 => rfl
  | 36 => rfl
  | 37 => rfl
  | 38 => rfl
  | 39 => rfl
  | 40 => rfl
  | 41 => rfl
  | 42 => rfl
  | 43 => rfl
  | 44 => rfl
  | 45 => rfl
  | 46 => rfl
  | 47 => rfl
  | 48 => rfl
  | 49 => rfl
  | 50 => rfl
  | 51 => rfl
  | 52 => rfl
  | 53 => rfl
  | 54 => rfl
  | 55 => rfl
  | 56 => rfl
  | 57 => rfl
  | 58 => rfl
  | 59 => rfl
  | 60 => rfl
  | 61 => rfl
  | 62 => rfl
  | 63 => rfl
  | 64 => rfl
  | 65 => rfl
  | 66 => rfl
  | 67 => rfl
  | 68 => rfl
  | 69 => rfl
  | 70 => rfl
  | 71 => rfl
  | 72 => rfl
  | 73 => rfl
  | 74 => rfl
  | 75 => rfl
  | 76 => rfl
  | 77 => rfl
  | 78 => rfl
  | 79 => rfl
  | 80 => rfl
  | 81 => rfl
  | 82 => rfl
  | 83 => rfl
  | 84 => rfl
  | 85 => rfl
  | 86 => rfl
  | k + 87 => rfl
def H0 : ab_H := (88, FL 88)
set_option maxRecDepth 100000 in
theorem fr_out : ab_push (87, FL 87) (.inl (2, 1, .inr (.inl (fun _ => 0)))) = H0 := by
  refine Prod.ext rfl (funext fun k => ?_)
  match k with
  | 0 => rfl
  | 1 => rfl
  | 2 => rfl
  | 3 => rfl
  | 4 => rfl
  | 5 => rfl
  | 6 => rfl
  | 7 => rfl
  | 8 => rfl
  | 9 => rfl
  | 10 => rfl
  | 11 => rfl
  | 12 => rfl
  | 13 => rfl
  | 14 => rfl
  | 15 => rfl
  | 16 => rfl
  | 17 => rfl
  | 18 => rfl
  | 19 => rfl
  | 20 => rfl
  | 21 => rfl
  | 22 => rfl
  | 23 => rfl
  | 24 => rfl
  | 25 => rfl
  | 26 => rfl
  | 27 => rfl
  | 28 => rfl
  | 29 => rfl
  | 30 => rfl
  | 31 => rfl
  | 32 => rfl
  | 33 => rfl
  | 34 => rfl
  | 35 => rfl
  | 36 => rfl
  | 37 => rfl
  | 38 => rfl
  | 39 => rfl
  | 40 => rfl
  | 41 => rfl
  | 42 => rfl
  | 43 => rfl
  | 44 => rfl
  | 45 => rfl
  | 46 => rfl
  | 47 => rfl
  | 48 => rfl
  | 49 => rfl
  | 50 => rfl
  | 51 => rfl
  | 52 => rfl
  | 53 => rfl
  | 54 => rfl
  | 55 => rfl
  | 56 => rfl
  | 57 => rfl
  | 58 => rfl
  | 59 => rfl
  | 60 => rfl
  | 61 => rfl
  | 62 => rfl
  | 63 => rfl
  | 64 => rfl
  | 65 => rfl
  | 66 => rfl
  | 67 => rfl
  | 68 => rfl
  | 69 => rfl
  | 70 => rfl
  | 71 => rfl
  | 72 => rfl
  | 73 => rfl
  | 74 => rfl
  | 75 => rfl
  | 76 => rfl
  | 77 => rfl
  | 78 => rfl
  | 79 => rfl
  | 80 => rfl
  | 81 => rfl
  | 82 => rfl
  | 83 => rfl
  | 84 => rfl
  | 85 => rfl
  | 86 => rfl
  | 87 => rfl
  | k + 88 => rfl
end
-- 64a.kinds.lean.txt
section
/-! ===== the fresh heap keeps its kinds ===== -/
def T0 (k : Nat) : Nat := sf_Tl.getD k 0
def v0b (k : sf_K) (v : Value) : Bool := match v with
  | .int x => decide (k.1 = 0) && decide (k.2.1 ≤ x.toInt) && decide (x.toInt ≤ k.2.2)
  | .ref a => decide (k.1 = 1) && decide (a < 88) && decide ((T0 a : Int) = k.2.1)
  | .null => decide (k.1 = 1) && decide (k.2.2 = 1)
  | .long _ => decide (k.1 = 2)
  | _ => false
theorem v0b_ok {k : sf_K} {v : Value} (h : v0b k v = true) : sf_v T0 88 k v := by
  cases v with
  | int x =>
    simp only [v0b, Bool.and_eq_true, decide_eq_true_eq] at h
    exact ⟨h.1.1, h.1.2, h.2⟩
  | ref a =>
    simp only [v0b, Bool.and_eq_true, decide_eq_true_eq] at h
    exact ⟨h.1.1, h.1.2, h.2⟩
  | null =>
    simp only [v0b, Bool.and_eq_true, decide_eq_true_eq] at h
    exact h
  | long x =>
    simp only [v0b, decide_eq_true_eq] at h
    exact h
  | _ => cases h
def f0b : List sf_K → List Value → Bool
  | [], _ => true
  | k :: ks, v :: vs => v0b k v && f0b ks vs
  | _ :: _, [] => false
theorem f0b_ok : ∀ (ks : List sf_K) (vs : List Value), f0b ks vs = true → ∀ (i : Nat) (k : sf_K), ks[i]? = some k → ∃ v, vs[i]? = some v ∧ sf_v T0 88 k v
  | [], _, _, i, k, hk => by simp at hk
  | k0 :: ks, [], h, _, _, _ => by cases h
  | k0 :: ks, v0 :: vs, h, 0, k, hk => by
    have hk' : k0 = k := Option.some.inj hk
    subst hk'
    have h' : (v0b k0 v0 && f0b ks vs) = true := h
    rw [Bool.and_eq_true] at h'
    exact ⟨v0, rfl, v0b_ok h'.1⟩
  | k0 :: ks, v0 :: vs, h, i + 1, k, hk => by
    have h' : (v0b k0 v0 && f0b ks vs) = true := h
    rw [Bool.and_eq_true] at h'
    exact f0b_ok ks vs h'.2 i k hk
theorem c0_o {g c : Nat} {fs : List Value} (h1 : c = sf_o g) (h2 : g < 100) (h3 : f0b (sf_C g) fs = true) : sf_c T0 88 g (.inr (c, fs)) := ⟨h1, h2, fun i k hk => f0b_ok _ _ h3 i k hk⟩
theorem c0_a {g kd len : Nat} (hg : 100 ≤ g) (h1 : kd = (sf_A g).1) (h2 : len = (sf_A g).2.1) (h3 : kd ≠ 2) (h4 : kd < 4) (h5 : sf_al (sf_A g).2.2 0 (len - 1) (0, 0) = true) : sf_c T0 88 g (.inl (kd, len, .inl (fun _ => 0))) :=
  ⟨hg, h1, h2, h3, h4, fun j hj => sf_al_ok (i := (0, 0)) (lo := 0) (hi := len - 1) ⟨by show (0 : Int) ≤ (0 : Int32).toInt; decide, by show (0 : Int32).toInt ≤ (0 : Int); decide⟩ (Nat.zero_le _) (by have : j < len := hj; omega) h5⟩
theorem c0_t {g kd len : Nat} {f : Nat → Int32} (hg : 100 ≤ g) (h1 : kd = (sf_A g).1) (h2 : len = (sf_A g).2.1) (h3 : kd ≠ 2) (h4 : kd < 4) (h5 : sf_al (sf_A g).2.2 0 (len - 1) (-2147483648, 2147483647) = true) : sf_c T0 88 g (.inl (kd, len, .inl f)) :=
  ⟨hg, h1, h2, h3, h4, fun j hj => sf_al_ok (i := (-2147483648, 2147483647)) (lo := 0) (hi := len - 1) ⟨(n_range (f j)).1, (n_range (f j)).2⟩ (Nat.zero_le _) (by have : j < len := hj; omega) h5⟩
theorem c0_l {g len : Nat} {f : Nat → Int64} (hg : 100 ≤ g) (h1 : 2 = (sf_A g).1) (h2 : len = (sf_A g).2.1) : sf_c T0 88 g (.inl (2, len, .inr (.inl f))) := ⟨hg, h1, h2, rfl⟩
theorem c0_r {g kd len g1 : Nat} (hg : 100 ≤ g) (h1 : kd = (sf_A g).1) (h2 : len = (sf_A g).2.1) (h3 : 4 ≤ kd) (h4 : kd < 6) (h5 : (sf_A g).2.2 = [(len, (1, (g1 : Int), 1))]) : sf_c T0 88 g (.inl (kd, len, .inr (.inr (.inr (.inr (fun _ => none)))))) := by
  refine ⟨hg, h1, h2, h3, h4, fun j hj => ?_⟩
  rw [h5]
  show sf_v T0 88 (cond (decide (j < len)) (1, (g1 : Int), 1) (9, 0, 0)) .null
  rw [decide_eq_true hj]
  exact ⟨rfl, rfl⟩
theorem c0_s : sf_c T0 88 132 (.inl (1, 434, .inl (upd (fun _ => 0) 2 10))) := by
  refine ⟨by decide, rfl, rfl, by decide, by decide, fun j hj => ?_⟩
  show sf_v T0 88 _ (.int (if j = 2 then 10 else 0))
  by_cases e : j = 2
  · rw [if_pos e, e]
    exact ⟨rfl, by decide, by decide⟩
  · rw [if_neg e]
    exact sf_al_ok (i := (0, 0)) (lo := 0) (hi := 433) ⟨by show (0 : Int) ≤ (0 : Int32).toInt; decide, by show (0 : Int32).toInt ≤ (0 : Int); decide⟩ (Nat.zero_le _) (by have : j < 434 := hj; omega) (by decide +kernel)
theorem P_mem {g q : Nat} (h : sf_P g = some q) : (g, q) ∈ sf_Pl := by
  unfold sf_P at h
  cases hx : sf_Pl.find? (fun q => q.1 == g) with
  | none =>
    rw [hx] at h
    cases h
  | some x =>
    rw [hx] at h
    have e2 : x.2 = q := Option.some.inj h
    have e1 : (x.1 == g) = true := List.find?_some (p := fun q : Nat × Nat => q.1 == g) hx
    have e1' : x.1 = g := by simpa using e1
    have hm := List.mem_of_find?_eq_some hx
    rw [← e1', ← e2]
    exact hm
set_option maxRecDepth 100000 in
theorem P_2 : ∀ k, k < 88 → ∀ x ∈ sf_Pl, x.1 = T0 k → k = x.2 := by decide +kernel
set_option maxRecDepth 100000 in
theorem P_3 : ∀ x ∈ sf_Pl, x.2 < 88 ∧ T0 x.2 = x.1 := by decide +kernel
set_option maxRecDepth 100000 in
theorem P_5 : ∀ a, a < 88 → T0 a = 5 → a = 61 ∨ a = 65 := by decide +kernel
theorem z_rd {a i : Nat} (h : H0.2 a = .inl (1, 40, .inl (fun _ => 0))) (hi : i < 40) : sf_rd H0 a i = some 0 := sf_rd_arr h hi
theorem IV_0 : sf_IV T0 H0 := by
  refine ⟨fun a ha h5 => ?_, fun i hi hx => ?_, cd_ok_0 rfl, cd_ok_0 rfl, cd_ok_0 rfl⟩
  · rcases P_5 a ha h5 with rfl | rfl
    · exact ⟨by decide, rfl, rfl, rfl, rfl, fun i hi x hx hx2 => ⟨0, z_rd (a := 63) rfl hi, by decide, by decide⟩⟩
    · exact ⟨by decide, rfl, rfl, rfl, rfl, fun i hi x hx hx2 => ⟨0, z_rd (a := 67) rfl hi, by decide, by decide⟩⟩
  · rw [z_rd (a := 37) rfl hi] at hx
    exact absurd (Option.some.inj hx) (by decide)
set_option maxRecDepth 100000 in
set_option maxHeartbeats 4000000 in
theorem sf_h0 : sf_h T0 H0 := by
  refine ⟨fun k hk => ?_, fun k q hk hP => P_2 k hk _ (P_mem hP) rfl, fun g q hP => P_3 _ (P_mem hP), IV_0⟩
  match k, hk with
  | 0, _ => exact (show sf_c T0 88 10 (.inr (10, [.ref 1, .ref 3, .ref 7, .ref 10, .ref 12, .ref 20, .ref 28, .ref 36, .ref 40, .ref 41, .ref 42, .ref 43, .ref 44, .ref 45, .ref 53, .ref 61, .ref 65, .int 0, .int 0])) from c0_o rfl (by decide) (by decide +kernel))
  | 1, _ => exact (show sf_c T0 88 8 (.inr (8, [.ref 2, .int 0, .int 0])) from c0_o rfl (by decide) (by decide +kernel))
  | 2, _ => exact (show sf_c T0 88 123 (.inl (0, 940, .inl (fun _ => 0))) from c0_a (by decide) rfl rfl (by decide) (by decide) (by decide +kernel))
  | 3, _ => exact (show sf_c T0 88 9 (.inr (9, [.ref 4, .ref 5, .ref 6, .int 0, .int 0, .int 0, .int 0, .int 0, .long 0, .int 0])) from c0_o rfl (by decide) (by decide +kernel))
  | 4, _ => exact (show sf_c T0 88 124 (.inl (1, 901, .inl (fun _ => 0))) from c0_a (by decide) rfl rfl (by decide) (by decide) (by decide +kernel))
  | 5, _ => exact (show sf_c T0 88 125 (.inl (1, 901, .inl (fun _ => 0))) from c0_a (by decide) rfl rfl (by decide) (by decide) (by decide +kernel))
  | 6, _ => exact (show sf_c T0 88 126 (.inl (2, 901, .inr (.inl (fun _ => 0)))) from c0_l (by decide) rfl rfl)
  | 7, _ => exact (show sf_c T0 88 1 (.inr (1, [.ref 8, .ref 9, .int 0, .int 0])) from c0_o rfl (by decide) (by decide +kernel))
  | 8, _ => exact (show sf_c T0 88 100 (.inl (1, 6, .inl (fun _ => 0))) from c0_a (by decide) rfl rfl (by decide) (by decide) (by decide +kernel))
  | 9, _ => exact (show sf_c T0 88 101 (.inl (1, 6, .inl (fun _ => 0))) from c0_a (by decide) rfl rfl (by decide) (by decide) (by decide +kernel))
  | 10, _ => exact (show sf_c T0 88 2 (.inr (2, [.ref 11, .int 0])) from c0_o rfl (by decide) (by decide +kernel))
  | 11, _ => exact (show sf_c T0 88 102 (.inl (5, 8, .inr (.inr (.inr (.inr (fun _ => none)))))) from c0_r (g1 := 15) (by decide) rfl rfl (by decide) (by decide) rfl)
  | 12, _ => exact (show sf_c T0 88 6 (.inr (6, [.ref 13, .ref 14, .ref 15, .ref 16, .ref 17, .ref 18, .ref 19, .int 0, .int 0, .int 0])) from c0_o rfl (by decide) (by decide +kernel))
  | 13, _ => exact (show sf_c T0 88 149 (.inl (1, 12, .inl (fun _ => 0))) from c0_a (by decide) rfl rfl (by decide) (by decide) (by decide +kernel))
  | 14, _ => exact (show sf_c T0 88 150 (.inl (1, 12, .inl (fun _ => 0))) from c0_a (by decide) rfl rfl (by decide) (by decide) (by decide +kernel))
  | 15, _ => exact (show sf_c T0 88 151 (.inl (1, 12, .inl (fun _ => 0))) from c0_a (by decide) rfl rfl (by decide) (by decide) (by decide +kernel))
  | 16, _ => exact (show sf_c T0 88 152 (.inl (1, 12, .inl (fun _ => 0))) from c0_a (by decide) rfl rfl (by decide) (by decide) (by decide +kernel))
  | 17, _ => exact (show sf_c T0 88 153 (.inl (1, 8, .inl (fun _ => 0))) from c0_a (by decide) rfl rfl (by decide) (by decide) (by decide +kernel))
  | 18, _ => exact (show sf_c T0 88 154 (.inl (1, 8, .inl (fun _ => 0))) from c0_a (by decide) rfl rfl (by decide) (by decide) (by decide +kernel))
  | 19, _ => exact (show sf_c T0 88 155 (.inl (1, 64, .inl (fun _ => 0))) from c0_a (by decide) rfl rfl (by decide) (by decide) (by decide +kernel))
  | 20, _ => exact (show sf_c T0 88 13 (.inr (6, [.ref 21, .ref 22, .ref 23, .ref 24, .ref 25, .ref 26, .ref 27, .int 0, .int 0, .int 0])) from c0_o rfl (by decide) (by decide +kernel))
  | 21, _ => exact (show sf_c T0 88 156 (.inl (1, 12, .inl (fun _ => 0))) from c0_a (by decide) rfl rfl (by decide) (by decide) (by decide +kernel))
  | 22, _ => exact (show sf_c T0 88 157 (.inl (1, 12, .inl (fun _ => 0))) from c0_a (by decide) rfl rfl (by decide) (by decide) (by decide +kernel))
  | 23, _ => exact (show sf_c T0 88 158 (.inl (1, 12, .inl (fun _ => 0))) from c0_a (by decide) rfl rfl (by decide) (by decide) (by decide +kernel))
  | 24, _ => exact (show sf_c T0 88 159 (.inl (1, 12, .inl (fun _ => 0))) from c0_a (by decide) rfl rfl (by decide) (by decide) (by decide +kernel))
  | 25, _ => exact (show sf_c T0 88 160 (.inl (1, 8, .inl (fun _ => 0))) from c0_a (by decide) rfl rfl (by decide) (by decide) (by decide +kernel))
  | 26, _ => exact (show sf_c T0 88 161 (.inl (1, 8, .inl (fun _ => 0))) from c0_a (by decide) rfl rfl (by decide) (by decide) (by decide +kernel))
  | 27, _ => exact (show sf_c T0 88 162 (.inl (1, 64, .inl (fun _ => 0))) from c0_a (by decide) rfl rfl (by decide) (by decide) (by decide +kernel))
  | 28, _ => exact (show sf_c T0 88 14 (.inr (6, [.ref 29, .ref 30, .ref 31, .ref 32, .ref 33, .ref 34, .ref 35, .int 0, .int 0, .int 0])) from c0_o rfl (by decide) (by decide +kernel))
  | 29, _ => exact (show sf_c T0 88 163 (.inl (1, 12, .inl (fun _ => 0))) from c0_a (by decide) rfl rfl (by decide) (by decide) (by decide +kernel))
  | 30, _ => exact (show sf_c T0 88 164 (.inl (1, 12, .inl (fun _ => 0))) from c0_a (by decide) rfl rfl (by decide) (by decide) (by decide +kernel))
  | 31, _ => exact (show sf_c T0 88 165 (.inl (1, 12, .inl (fun _ => 0))) from c0_a (by decide) rfl rfl (by decide) (by decide) (by decide +kernel))
  | 32, _ => exact (show sf_c T0 88 166 (.inl (1, 12, .inl (fun _ => 0))) from c0_a (by decide) rfl rfl (by decide) (by decide) (by decide +kernel))
  | 33, _ => exact (show sf_c T0 88 167 (.inl (1, 8, .inl (fun _ => 0))) from c0_a (by decide) rfl rfl (by decide) (by decide) (by decide +kernel))
  | 34, _ => exact (show sf_c T0 88 168 (.inl (1, 8, .inl (fun _ => 0))) from c0_a (by decide) rfl rfl (by decide) (by decide) (by decide +kernel))
  | 35, _ => exact (show sf_c T0 88 169 (.inl (1, 64, .inl (fun _ => 0))) from c0_a (by decide) rfl rfl (by decide) (by decide) (by decide +kernel))
  | 36, _ => exact (show sf_c T0 88 4 (.inr (4, [.ref 37, .ref 38, .ref 39, .int 0])) from c0_o rfl (by decide) (by decide +kernel))
  | 37, _ => exact (show sf_c T0 88 103 (.inl (1, 40, .inl (fun _ => 0))) from c0_a (by decide) rfl rfl (by decide) (by decide) (by decide +kernel))
  | 38, _ => exact (show sf_c T0 88 104 (.inl (1, 40, .inl (fun _ => 0))) from c0_a (by decide) rfl rfl (by decide) (by decide) (by decide +kernel))
  | 39, _ => exact (show sf_c T0 88 105 (.inl (1, 40, .inl (fun _ => 0))) from c0_a (by decide) rfl rfl (by decide) (by decide) (by decide +kernel))
  | 40, _ => exact (show sf_c T0 88 0 (.inr (0, [.int 0])) from c0_o rfl (by decide) (by decide +kernel))
  | 41, _ => exact (show sf_c T0 88 127 (.inl (4, 2, .inr (.inr (.inr (.inr (fun _ => none)))))) from c0_r (g1 := 3) (by decide) rfl rfl (by decide) (by decide) rfl)
  | 42, _ => exact (show sf_c T0 88 128 (.inl (1, 12, .inl (fun _ => 0))) from c0_a (by decide) rfl rfl (by decide) (by decide) (by decide +kernel))
  | 43, _ => exact (show sf_c T0 88 129 (.inl (1, 60, .inl (fun _ => 0))) from c0_a (by decide) rfl rfl (by decide) (by decide) (by decide +kernel))
  | 44, _ => exact c0_t (by decide) rfl rfl (by decide) (by decide) (by decide +kernel)
  | 45, _ => exact (show sf_c T0 88 7 (.inr (7, [.ref 46, .ref 47, .ref 48, .ref 49, .ref 50, .ref 51, .ref 52, .int 10, .int 0, .int 0, .int 0, .int 0, .long 0])) from c0_o rfl (by decide) (by decide +kernel))
  | 46, _ => exact (show sf_c T0 88 116 (.inl (2, 6, .inr (.inl (fun _ => 0)))) from c0_l (by decide) rfl rfl)
  | 47, _ => exact (show sf_c T0 88 117 (.inl (2, 8, .inr (.inl (fun _ => 0)))) from c0_l (by decide) rfl rfl)
  | 48, _ => exact (show sf_c T0 88 118 (.inl (1, 8, .inl (fun _ => 0))) from c0_a (by decide) rfl rfl (by decide) (by decide) (by decide +kernel))
  | 49, _ => exact (show sf_c T0 88 119 (.inl (1, 48, .inl (fun _ => 0))) from c0_a (by decide) rfl rfl (by decide) (by decide) (by decide +kernel))
  | 50, _ => exact (show sf_c T0 88 120 (.inl (1, 20, .inl (fun _ => 0))) from c0_a (by decide) rfl rfl (by decide) (by decide) (by decide +kernel))
  | 51, _ => exact (show sf_c T0 88 121 (.inl (1, 20, .inl (fun _ => 0))) from c0_a (by decide) rfl rfl (by decide) (by decide) (by decide +kernel))
  | 52, _ => exact (show sf_c T0 88 122 (.inl (1, 20, .inl (fun _ => 0))) from c0_a (by decide) rfl rfl (by decide) (by decide) (by decide +kernel))
  | 53, _ => exact (show sf_c T0 88 7 (.inr (7, [.ref 54, .ref 55, .ref 56, .ref 57, .ref 58, .ref 59, .ref 60, .int 10, .int 0, .int 0, .int 0, .int 0, .long 0])) from c0_o rfl (by decide) (by decide +kernel))
  | 54, _ => exact (show sf_c T0 88 116 (.inl (2, 6, .inr (.inl (fun _ => 0)))) from c0_l (by decide) rfl rfl)
  | 55, _ => exact (show sf_c T0 88 117 (.inl (2, 8, .inr (.inl (fun _ => 0)))) from c0_l (by decide) rfl rfl)
  | 56, _ => exact (show sf_c T0 88 118 (.inl (1, 8, .inl (fun _ => 0))) from c0_a (by decide) rfl rfl (by decide) (by decide) (by decide +kernel))
  | 57, _ => exact (show sf_c T0 88 119 (.inl (1, 48, .inl (fun _ => 0))) from c0_a (by decide) rfl rfl (by decide) (by decide) (by decide +kernel))
  | 58, _ => exact (show sf_c T0 88 120 (.inl (1, 20, .inl (fun _ => 0))) from c0_a (by decide) rfl rfl (by decide) (by decide) (by decide +kernel))
  | 59, _ => exact (show sf_c T0 88 121 (.inl (1, 20, .inl (fun _ => 0))) from c0_a (by decide) rfl rfl (by decide) (by decide) (by decide +kernel))
  | 60, _ => exact (show sf_c T0 88 122 (.inl (1, 20, .inl (fun _ => 0))) from c0_a (by decide) rfl rfl (by decide) (by decide) (by decide +kernel))
  | 61, _ => exact (show sf_c T0 88 5 (.inr (5, [.ref 62, .ref 63, .ref 64, .int 0, .int 0, .int 0])) from c0_o rfl (by decide) (by decide +kernel))
  | 62, _ => exact (show sf_c T0 88 106 (.inl (1, 40, .inl (fun _ => 0))) from c0_a (by decide) rfl rfl (by decide) (by decide) (by decide +kernel))
  | 63, _ => exact (show sf_c T0 88 107 (.inl (1, 40, .inl (fun _ => 0))) from c0_a (by decide) rfl rfl (by decide) (by decide) (by decide +kernel))
  | 64, _ => exact (show sf_c T0 88 108 (.inl (1, 40, .inl (fun _ => 0))) from c0_a (by decide) rfl rfl (by decide) (by decide) (by decide +kernel))
  | 65, _ => exact (show sf_c T0 88 5 (.inr (5, [.ref 66, .ref 67, .ref 68, .int 0, .int 0, .int 0])) from c0_o rfl (by decide) (by decide +kernel))
  | 66, _ => exact (show sf_c T0 88 106 (.inl (1, 40, .inl (fun _ => 0))) from c0_a (by decide) rfl rfl (by decide) (by decide) (by decide +kernel))
  | 67, _ => exact (show sf_c T0 88 107 (.inl (1, 40, .inl (fun _ => 0))) from c0_a (by decide) rfl rfl (by decide) (by decide) (by decide +kernel))
  | 68, _ => exact (show sf_c T0 88 108 (.inl (1, 40, .inl (fun _ => 0))) from c0_a (by decide) rfl rfl (by decide) (by decide) (by decide +kernel))
  | 69, _ => exact (show sf_c T0 88 11 (.inr (11, [.int 0, .ref 70, .int 0, .int 0, .int 0, .int 0, .ref 71, .ref 72, .ref 73, .ref 74, .ref 75, .int 0, .int 0, .int 0, .int 0, .int 0, .int 0, .long 0, .int 0, .int 0, .int 0, .ref 76, .int 0, .ref 77, .ref 78, .int 0, .ref 79, .ref 80, .int (-1), .int 0, .int 0, .ref 81, .int 0, .ref 82, .int 0, .int 0, .int 0, .int 0, .int 0, .ref 83, .ref 84, .ref 85, .ref 86])) from c0_o rfl (by decide) (by decide +kernel))
  | 70, _ => exact (show sf_c T0 88 131 (.inl (0, 940, .inl (fun _ => 0))) from c0_a (by decide) rfl rfl (by decide) (by decide) (by decide +kernel))
  | 71, _ => exact c0_s
  | 72, _ => exact (show sf_c T0 88 133 (.inl (1, 120, .inl (fun _ => 0))) from c0_a (by decide) rfl rfl (by decide) (by decide) (by decide +kernel))
  | 73, _ => exact (show sf_c T0 88 134 (.inl (1, 160, .inl (fun _ => 0))) from c0_a (by decide) rfl rfl (by decide) (by decide) (by decide +kernel))
  | 74, _ => exact (show sf_c T0 88 135 (.inl (2, 28, .inr (.inl (fun _ => 0)))) from c0_l (by decide) rfl rfl)
  | 75, _ => exact c0_l (by decide) rfl rfl
  | 76, _ => exact (show sf_c T0 88 137 (.inl (1, 4, .inl (fun _ => 0))) from c0_a (by decide) rfl rfl (by decide) (by decide) (by decide +kernel))
  | 77, _ => exact (show sf_c T0 88 138 (.inl (1, 1064, .inl (fun _ => 0))) from c0_a (by decide) rfl rfl (by decide) (by decide) (by decide +kernel))
  | 78, _ => exact (show sf_c T0 88 139 (.inl (1, 133, .inl (fun _ => 0))) from c0_a (by decide) rfl rfl (by decide) (by decide) (by decide +kernel))
  | 79, _ => exact (show sf_c T0 88 140 (.inl (1, 60, .inl (fun _ => 0))) from c0_a (by decide) rfl rfl (by decide) (by decide) (by decide +kernel))
  | 80, _ => exact (show sf_c T0 88 141 (.inl (1, 12, .inl (fun _ => 0))) from c0_a (by decide) rfl rfl (by decide) (by decide) (by decide +kernel))
  | 81, _ => exact (show sf_c T0 88 142 (.inl (1, 4, .inl (fun _ => 0))) from c0_a (by decide) rfl rfl (by decide) (by decide) (by decide +kernel))
  | 82, _ => exact (show sf_c T0 88 143 (.inl (1, 45, .inl (fun _ => 0))) from c0_a (by decide) rfl rfl (by decide) (by decide) (by decide +kernel))
  | 83, _ => exact (show sf_c T0 88 144 (.inl (3, 45, .inl (fun _ => 0))) from c0_a (by decide) rfl rfl (by decide) (by decide) (by decide +kernel))
  | 84, _ => exact (show sf_c T0 88 145 (.inl (1, 868, .inl (fun _ => 0))) from c0_a (by decide) rfl rfl (by decide) (by decide) (by decide +kernel))
  | 85, _ => exact (show sf_c T0 88 146 (.inl (2, 28, .inr (.inl (fun _ => 0)))) from c0_l (by decide) rfl rfl)
  | 86, _ => exact (show sf_c T0 88 147 (.inl (3, 2, .inl (fun _ => 0))) from c0_a (by decide) rfl rfl (by decide) (by decide) (by decide +kernel))
  | 87, _ => exact (show sf_c T0 88 148 (.inl (2, 1, .inr (.inl (fun _ => 0)))) from c0_l (by decide) rfl rfl)
  | k + 88, h => exact absurd (show k + 88 < 88 from h) (by omega)
end
-- 64b.cx0.lean.txt
section
/-! ===== the fresh heap: both sides over nothing ===== -/
def S00 : Sh := (fun _ => 0, fun _ => 0, fun _ => 0, fun _ => 0, fun _ => 0, fun _ => 0, fun _ => 0, 0, 0, 0)
def T00 : St := (0, 0, 0, 10, fun _ => 0, fun _ => 0, fun _ => 0, fun _ => 0, fun _ => 0)
def D00 : DD := (T00, fun _ => 0, S00, 0, fun _ => S00, fun _ => none)
theorem inv00 : INV T00 S00 := ⟨fun k _ => by show 0 ≤ (0 : Int32).toInt ∧ (0 : Int32).toInt ≤ 999; decide, fun k _ => by show 0 ≤ (0 : Int32).toInt ∧ (0 : Int32).toInt + (0 : Int32).toInt ≤ 250 + 290 * ((0 : Nat) : Int); decide, fun k h => absurd h (Nat.not_lt_zero k), fun k h => absurd h (Nat.not_lt_zero k), fun k _ => by show 0 ≤ (0 : Int32).toInt ∧ (0 : Int32).toInt ≤ 40 * ((0 : Nat) : Int); decide, by decide⟩
theorem dok00 : DOK D00 := ⟨⟨by decide, by decide, fun k _ => by show 0 ≤ (0 : Int32).toInt ∧ (0 : Int32).toInt ≤ 250; decide⟩, inv00, fun j h => absurd h (Nat.not_lt_zero j), fun k x e => by cases e⟩
theorem tw00 : TW T00 := ⟨by decide, by decide, by decide, fun i h => absurd h (Nat.not_lt_zero i), fun i j h => absurd h (Nat.not_lt_zero i)⟩
set_option maxRecDepth 100000 in
set_option maxHeartbeats 4000000 in
theorem gw00 : GW (fl H0) := by
  intro y my
  unfold wires at my
  simp only [List.mem_cons, List.not_mem_nil, or_false] at my
  repeat' (rcases my with my | my)
  all_goals rfl
theorem o7_00 {p : Nat} (h : p = 12 ∨ p = 45) : O7 (fl H0) p := fun j hj => by
  rcases h with rfl | rfl
  · exact (o7w gw00).1 j hj
  · exact (o7w gw00).2.2.1 j hj
theorem tr00 : TR (fl H0) 45 T00 := ⟨o7_00 (Or.inr rfl), tw00, rfl, rfl, rfl, rfl, fun j _ => rfl, fun j h => absurd h (Nat.not_lt_zero j), fun j h => absurd h (Nat.not_lt_zero j), fun j h => absurd h (Nat.not_lt_zero j), fun j h => absurd h (Nat.not_lt_zero j)⟩
theorem shr00 : SHR (fl H0) 12 0 S00 := ⟨o7_00 (Or.inl rfl), by decide, fun j _ => rfl, fun j _ => rfl, fun j _ => rfl, fun j _ => rfl, fun j h => absurd h (Nat.not_lt_zero j), fun j h => absurd h (Nat.not_lt_zero j), fun j _ => rfl, rfl, rfl, rfl⟩
theorem hst00 : HST (fl H0) 0 0 (fun _ => S00) := ⟨0, fun _ => 0, ⟨Nat.zero_le _, fun j h => absurd h (Nat.not_lt_zero j), fun j _ _ => rfl, fun i j h => absurd h (Nat.not_lt_zero i)⟩, Nat.le_refl _, rfl, fun j h => absurd h (Nat.not_lt_zero j)⟩
theorem cr00 : CR (fl H0) D00 := ⟨gw00, Nat.le_refl _, ⟨45, 53, Or.inl ⟨rfl, rfl⟩, rfl, rfl, tr00, fun g h => absurd h (Nat.not_lt_zero g), fun g h => absurd h (Nat.not_lt_zero g)⟩, ⟨61, 65, Or.inl ⟨rfl, rfl⟩, rfl, rfl⟩, shr00, hst00, fun _ => 0, fun k _ => (show (fl H0).2.1 41 k = .null from rfl), fun h => by cases h⟩
theorem x71_00 {k : Nat} (h : k ≠ 2) : (fl H0).1 71 k = 0 := by
  show upd (fun _ => 0) 2 10 k = 0
  unfold upd
  simp [h]
theorem xt00 : XT (fl H0) T00 := ⟨tw00, x71_00 (by decide), x71_00 (by decide), rfl, x71_00 (by decide), fun j _ => x71_00 (by omega), fun j _ => x71_00 (by omega), fun j _ => x71_00 (by omega), fun j _ => x71_00 (by omega), fun j h => absurd h (Nat.not_lt_zero j), fun j h => absurd h (Nat.not_lt_zero j), fun j h => absurd h (Nat.not_lt_zero j), fun j h => absurd h (Nat.not_lt_zero j)⟩
theorem xs00 : XS (fl H0) 0 S00 := ⟨by decide, x71_00 (by decide), x71_00 (by decide), x71_00 (by decide), (x71_00 (by decide)).trans (by decide), fun j _ => x71_00 (by omega), fun j _ => x71_00 (by omega), fun j _ => x71_00 (by omega), fun j _ => x71_00 (by omega), fun k h => absurd h (Nat.not_lt_zero k), fun k h => absurd h (Nat.not_lt_zero k), fun k h => absurd h (Nat.not_lt_zero k), fun k j h => absurd h (Nat.not_lt_zero k)⟩
set_option maxRecDepth 100000 in
theorem rwf00 : RWF (fl H0) := fun j hj => match j, hj with
  | 0, _ => by decide
  | 1, _ => by decide
  | 2, _ => by decide
  | 3, _ => by decide
  | 4, _ => by decide
  | 5, _ => by decide
  | 6, _ => by decide
  | 7, _ => by decide
  | 8, _ => by decide
  | 9, _ => by decide
  | 10, _ => by decide
  | 11, _ => by decide
  | 12, _ => by decide
  | 13, _ => by decide
  | 14, _ => by decide
  | 15, _ => by decide
  | 16, _ => by decide
  | 17, _ => by decide
  | 18, _ => by decide
  | 19, _ => by decide
  | 20, _ => by decide
  | 21, _ => by decide
  | 22, _ => by decide
  | 23, _ => by decide
  | 24, _ => by decide
  | j + 25, h => absurd h (by omega)
theorem xr00 : XR (fl H0) D00 := ⟨gw00, xt00, xs00, ⟨rfl, by decide, fun j h => absurd h (Nat.not_lt_zero j)⟩, ⟨fun g h => absurd h (Nat.not_lt_zero g), fun g h => absurd h (Nat.not_lt_zero g)⟩, rwf00, fun k _ => (show (fl H0).1 86 k = 0 from rfl)⟩
theorem cx00 : ∃ D : DD, DOK D ∧ CR (fl H0) D ∧ XR (fl H0) D := ⟨D00, dok00, cr00, xr00⟩
end
-- 65.o0.lean.txt
section
/-! ===== the law: one operation ===== -/
noncomputable def LT (xs : Nat → Int32) (n : Nat) : Nat → Option ab_A := ab_T (LZ_law xs n)
abbrev lw_tb (hp : ab_H) : Prop := TB hp ∧ RES hp
theorem lw_keep {W : List (Nat × Nat × Nat)} {t t' : Nat → Nat} {hp hp' : ab_H} (H : sf_h t hp) (f : sf_fr W t hp t' hp') (h1 : sf_inW W 8 1 = false) (h2 : sf_inW W 11 2 = false) (h3 : W.all (fun w => decide (w.1 ≠ 123)) = true) (h4 : W.all (fun w => decide (w.1 ≠ 131)) = true) (h5 : W.all (fun w => decide (w.1 ≠ 136)) = true) (h : lw_tb hp) : lw_tb hp' := by
  obtain ⟨⟨v, a, b, c, d, e⟩, r⟩ := h
  obtain ⟨a1, a2⟩ := H.2.2.1 8 1 rfl
  obtain ⟨b1, b2⟩ := H.2.2.1 11 69 rfl
  obtain ⟨c1, c2⟩ := H.2.2.1 123 2 rfl
  obtain ⟨d1, d2⟩ := H.2.2.1 131 70 rfl
  refine ⟨⟨v, (f.2.2.1 1 a1 1 (by rw [a2]; exact h1)).trans a, (f.2.2.1 69 b1 2 (by rw [b2]; exact h2)).trans b, c, d, fun q hq => ?_⟩, RES_fr H f h5 r⟩
  rw [sf_rd_cell (f.2.2.2.1 2 c1 (by rw [c2]; exact h3)), sf_rd_cell (f.2.2.2.1 70 d1 (by rw [d2]; exact h4))]
  exact e q hq
/-- both sides are alike: the tapes, the words, and all that the days are made of -/
abbrev lw_eq (hp : ab_H) : Prop := lw_tb hp ∧ ∃ D : DD, DOK D ∧ CR (fl hp) D ∧ XR (fl hp) D
theorem TB_n {hp : ab_H} (h : TB hp) : ∃ tn : Nat, tn ≤ 940 ∧ sf_rd hp 1 1 = some (tn : Int) ∧ sf_rd hp 69 2 = some (tn : Int) ∧ bv hp 70 tn = bv hp 2 tn := by
  obtain ⟨v, a, b, c, d, e⟩ := h
  obtain ⟨tn, rfl⟩ := Int.eq_ofNat_of_zero_le c
  exact ⟨tn, by omega, a, b, TB_bv e⟩
def lw_K (xs : Nat → Int32) (n : Nat) (z : Int32) (m k : Nat) (Q : ab_O → Prop) : Prop := ∀ (hp' : ab_H) (t' : Nat → Nat) (a5 a6 : Option Value) (m' k' : Nat), sf_h t' hp' → lw_eq hp' → m' ≤ m + 21 → k' ≤ k + 410 → Ev (LT xs n) 1468 ([some (.retAddr 0), some (.ref 0), some (.ref 69), some (.ref 87), some (.int z), a5, a6], [], (m', k'), hp') Q
theorem ls_room {m k mc ms MC MS : Nat} {rest : List Value} (h0 : ab_cats rest ≤ 8) (h1 : m + mc ≤ MC) (h2 : k + ms ≤ MS) : (decide (ab_cats rest ≤ 8) && decide ((m, k).1 + mc ≤ MC) && decide ((m, k).2 + ms ≤ MS)) = true := by
  rw [decide_eq_true h0, decide_eq_true (show (m, k).1 + mc ≤ MC from h1), decide_eq_true (show (m, k).2 + ms ≤ MS from h2)]
  rfl
theorem ls_sld {T : Nat → Option ab_A} {i j n : Nat} {xs : Nat → Int32} {x : Int32} {lo : List (Option Value)} {st : List Value} {u : Nat × Nat} {hp : ab_H} {Q : ab_O → Prop} (hT : T i = some (ab_nx j (ab_sld xs n))) (h0 : 0 ≤ x.toInt) (h1 : x.toInt < n) (h : Ev T j (lo, .int (xs x.toNatClampNeg) :: st, u, hp) Q) : Ev T i (lo, .int x :: .retAddr 0 :: st, u, hp) Q :=
  Ev.nx hT (by show cond (ab_in x n) (some (lo, Value.int (xs x.toNatClampNeg) :: st, u, hp)) none = _; rw [n_in h0 h1]; rfl) h
set_option maxRecDepth 100000 in
set_option maxHeartbeats 4000000 in
theorem op_feed {xs : Nat → Int32} {n : Nat} {z : Int32} {a5 a6 : Option Value} {m k : Nat} {hp : ab_H} {t : Nat → Nat} {Q : ab_O → Prop} (H : sf_h t hp) (hs : lw_eq hp) (hz0 : 0 ≤ z.toInt) (hz1 : z.toInt + 6 ≤ n) (hn : n ≤ 3072) (hm : m + 21 ≤ 709736) (hk : k + 410 ≤ 6966897) (K : lw_K xs n z m k Q) : Ev (LT xs n) 220 ([some (.retAddr 0), some (.ref 0), some (.ref 69), some (.ref 87), some (.int z), a5, a6], [], (m, k), hp) Q := by
  obtain ⟨hs, D, hD, hC, hX⟩ := hs
  refine Ev.step (j := 221) (s' := ([some (.retAddr 0), some (.ref 0), some (.ref 69), some (.ref 87), some (.int z), a5, a6], [.ref 0], (m, k), hp)) rfl rfl ?_
  refine Ev.step (j := 222) (s' := ([some (.retAddr 0), some (.ref 0), some (.ref 69), some (.ref 87), some (.int z), a5, a6], [.retAddr 0, .ref 0], (m, k), hp)) rfl rfl ?_
  refine Ev.step (j := 224) (s' := ([some (.retAddr 0), some (.ref 0), some (.ref 69), some (.ref 87), some (.int z), a5, a6], [.int z, .retAddr 0, .ref 0], (m, k), hp)) rfl rfl ?_
  refine bs_lit (k := 1) rfl rfl fun z1 hz1 => ?_
  refine bs_add rfl (by omega) (by omega) fun z2 hz2 => ?_
  refine ls_sld rfl (by omega) (by omega) ?_
  refine (show Ev _ 227 ([some (.retAddr 0), some (.ref 0), some (.ref 69), some (.ref 87), some (.int z), a5, a6], [.int (xs z2.toNatClampNeg), .ref 0], (m, k), hp) _ from ?_)
  refine Ev.step (j := 228) (s' := ([some (.retAddr 0), some (.ref 0), some (.ref 69), some (.ref 87), some (.int z), a5, a6], [.retAddr 0, .int (xs z2.toNatClampNeg), .ref 0], (m, k), hp)) rfl rfl ?_
  refine Ev.step (j := 230) (s' := ([some (.retAddr 0), some (.ref 0), some (.ref 69), some (.ref 87), some (.int z), a5, a6], [.int z, .retAddr 0, .int (xs z2.toNatClampNeg), .ref 0], (m, k), hp)) rfl rfl ?_
  refine bs_lit (k := 2) rfl rfl fun z3 hz3 => ?_
  refine bs_add rfl (by omega) (by omega) fun z4 hz4 => ?_
  refine ls_sld rfl (by omega) (by omega) ?_
  refine (show Ev _ 233 ([some (.retAddr 0), some (.ref 0), some (.ref 69), some (.ref 87), some (.int z), a5, a6], [.int (xs z4.toNatClampNeg), .int (xs z2.toNatClampNeg), .ref 0], (m, k), hp) _ from ?_)
  refine Ev.step (j := 234) (s' := ([some (.retAddr 0), some (.ref 0), some (.ref 69), some (.ref 87), some (.int z), a5, a6], [.retAddr 0, .int (xs z4.toNatClampNeg), .int (xs z2.toNatClampNeg), .ref 0], (m, k), hp)) rfl rfl ?_
  refine Ev.step (j := 236) (s' := ([some (.retAddr 0), some (.ref 0), some (.ref 69), some (.ref 87), some (.int z), a5, a6], [.int z, .retAddr 0, .int (xs z4.toNatClampNeg), .int (xs z2.toNatClampNeg), .ref 0], (m, k), hp)) rfl rfl ?_
  refine bs_lit (k := 3) rfl rfl fun z5 hz5 => ?_
  refine bs_add rfl (by omega) (by omega) fun z6 hz6 => ?_
  refine ls_sld rfl (by omega) (by omega) ?_
  refine (show Ev _ 239 ([some (.retAddr 0), some (.ref 0), some (.ref 69), some (.ref 87), some (.int z), a5, a6], [.int (xs z6.toNatClampNeg), .int (xs z4.toNatClampNeg), .int (xs z2.toNatClampNeg), .ref 0], (m, k), hp) _ from ?_)
  refine Ev.step (j := 240) (s' := ([some (.retAddr 0), some (.ref 0), some (.ref 69), some (.ref 87), some (.int z), a5, a6], [.retAddr 0, .int (xs z6.toNatClampNeg), .int (xs z4.toNatClampNeg), .int (xs z2.toNatClampNeg), .ref 0], (m, k), hp)) rfl rfl ?_
  refine Ev.step (j := 242) (s' := ([some (.retAddr 0), some (.ref 0), some (.ref 69), some (.ref 87), some (.int z), a5, a6], [.int z, .retAddr 0, .int (xs z6.toNatClampNeg), .int (xs z4.toNatClampNeg), .int (xs z2.toNatClampNeg), .ref 0], (m, k), hp)) rfl rfl ?_
  refine bs_lit (k := 4) rfl rfl fun z7 hz7 => ?_
  refine bs_add rfl (by omega) (by omega) fun z8 hz8 => ?_
  refine ls_sld rfl (by omega) (by omega) ?_
  refine (show Ev _ 245 ([some (.retAddr 0), some (.ref 0), some (.ref 69), some (.ref 87), some (.int z), a5, a6], [.int (xs z8.toNatClampNeg), .int (xs z6.toNatClampNeg), .int (xs z4.toNatClampNeg), .int (xs z2.toNatClampNeg), .ref 0], (m, k), hp) _ from ?_)
  refine Ev.step (j := 246) (s' := ([some (.retAddr 0), some (.ref 0), some (.ref 69), some (.ref 87), some (.int z), a5, a6], [.retAddr 0, .int (xs z8.toNatClampNeg), .int (xs z6.toNatClampNeg), .int (xs z4.toNatClampNeg), .int (xs z2.toNatClampNeg), .ref 0], (m, k), hp)) rfl rfl ?_
  refine Ev.step (j := 248) (s' := ([some (.retAddr 0), some (.ref 0), some (.ref 69), some (.ref 87), some (.int z), a5, a6], [.int z, .retAddr 0, .int (xs z8.toNatClampNeg), .int (xs z6.toNatClampNeg), .int (xs z4.toNatClampNeg), .int (xs z2.toNatClampNeg), .ref 0], (m, k), hp)) rfl rfl ?_
  refine bs_lit (k := 5) rfl rfl fun z9 hz9 => ?_
  refine bs_add rfl (by omega) (by omega) fun z10 hz10 => ?_
  refine ls_sld rfl (by omega) (by omega) ?_
  refine (show Ev _ 251 ([some (.retAddr 0), some (.ref 0), some (.ref 69), some (.ref 87), some (.int z), a5, a6], [.int (xs z10.toNatClampNeg), .int (xs z8.toNatClampNeg), .int (xs z6.toNatClampNeg), .int (xs z4.toNatClampNeg), .int (xs z2.toNatClampNeg), .ref 0], (m, k), hp) _ from ?_)
  refine bs_callx (K := kq_X10_feed_b) [.ref 0, .int (xs z2.toNatClampNeg), .int (xs z4.toNatClampNeg), .int (xs z6.toNatClampNeg), .int (xs z8.toNatClampNeg), .int (xs z10.toNatClampNeg)] [] rfl ce_X10_feed_b H rfl rfl rfl (bs_rcv (g := 10) H (bs_R.uq H (g := 10) rfl) (by decide) rfl) (ls_room (Nat.le_of_ble_eq_true rfl) (by omega) (by omega)) ?_ (sf_S_nil) fun r12 hp11 thp11 Hhp11 fhp11 ahp11 php11 xhp11 => ?_
  · intro q k h
    match q, h with
    | 0, h => cases h; exact bs_jR (bs_R.uq H (g := 10) rfl)
    | 1, h => cases h; exact sf_j0
    | 2, h => cases h; exact sf_j0
    | 3, h => cases h; exact sf_j0
    | 4, h => cases h; exact sf_j0
    | 5, h => cases h; exact sf_j0
    | q + 6, h => cases h
  obtain ⟨z13, rfl⟩ := bs_anI ahp11
  obtain ⟨⟨v0, hc0, hr0, v00, v01, T0⟩, RS⟩ := hs
  have RS1 := RES_fr H fhp11 rfl RS
  have hr1 : sf_rd hp11 69 2 = some v0 := (fhp11.2.2.1 _ (bs_R.uq H (g := 11) (p := 69) rfl).1 _ (by rw [(bs_R.uq H (g := 11) (p := 69) rfl).2]; rfl)).trans hr0
  have r1 : ∀ q, sf_rd hp11 70 q = sf_rd hp 70 q := fun q => (fhp11.2.2.1 _ (bs_R.uq H (g := 131) (p := 70) rfl).1 _ (by rw [(bs_R.uq H (g := 131) (p := 70) rfl).2]; rfl))
  obtain ⟨w1, ew1, ez1, hc1, CA, CB⟩ := xhp11 v0 hc0
  obtain rfl := Value.int.inj (Option.some.inj ew1)
  obtain ⟨hC1, kx1⟩ := CRW (by rfl) H Hhp11 fhp11 hC
  have hX1 := kx1 _ hX
  refine (show Ev _ 254 ([some (.retAddr 0), some (.ref 0), some (.ref 69), some (.ref 87), some (.int z), a5, a6], [.int z13], (m + 0, k + 0), hp11) _ from ?_)
  refine Ev.step (j := 255) (s' := ([some (.retAddr 0), some (.ref 0), some (.ref 69), some (.ref 87), some (.int z), a5, a6], [], (m + 0, k + 0), hp11)) rfl rfl ?_
  refine Ev.step (j := 256) (s' := ([some (.retAddr 0), some (.ref 0), some (.ref 69), some (.ref 87), some (.int z), a5, a6], [.ref 69], (m + 0, k + 0), hp11)) rfl rfl ?_
  refine Ev.step (j := 257) (s' := ([some (.retAddr 0), some (.ref 0), some (.ref 69), some (.ref 87), some (.int z), a5, a6], [.retAddr 0, .ref 69], (m + 0, k + 0), hp11)) rfl rfl ?_
  refine Ev.step (j := 259) (s' := ([some (.retAddr 0), some (.ref 0), some (.ref 69), some (.ref 87), some (.int z), a5, a6], [.int z, .retAddr 0, .ref 69], (m + 0, k + 0), hp11)) rfl rfl ?_
  refine bs_lit (k := 1) rfl rfl fun z14 hz14 => ?_
  refine bs_add rfl (by omega) (by omega) fun z15 hz15 => ?_
  refine ls_sld rfl (by omega) (by omega) ?_
  refine (show Ev _ 262 ([some (.retAddr 0), some (.ref 0), some (.ref 69), some (.ref 87), some (.int z), a5, a6], [.int (xs z15.toNatClampNeg), .ref 69], (m + 0, k + 0), hp11) _ from ?_)
  refine Ev.step (j := 263) (s' := ([some (.retAddr 0), some (.ref 0), some (.ref 69), some (.ref 87), some (.int z), a5, a6], [.retAddr 0, .int (xs z15.toNatClampNeg), .ref 69], (m + 0, k + 0), hp11)) rfl rfl ?_
  refine Ev.step (j := 265) (s' := ([some (.retAddr 0), some (.ref 0), some (.ref 69), some (.ref 87), some (.int z), a5, a6], [.int z, .retAddr 0, .int (xs z15.toNatClampNeg), .ref 69], (m + 0, k + 0), hp11)) rfl rfl ?_
  refine bs_lit (k := 2) rfl rfl fun z16 hz16 => ?_
  refine bs_add rfl (by omega) (by omega) fun z17 hz17 => ?_
  refine ls_sld rfl (by omega) (by omega) ?_
  refine (show Ev _ 268 ([some (.retAddr 0), some (.ref 0), some (.ref 69), some (.ref 87), some (.int z), a5, a6], [.int (xs z17.toNatClampNeg), .int (xs z15.toNatClampNeg), .ref 69], (m + 0, k + 0), hp11) _ from ?_)
  refine Ev.step (j := 269) (s' := ([some (.retAddr 0), some (.ref 0), some (.ref 69), some (.ref 87), some (.int z), a5, a6], [.retAddr 0, .int (xs z17.toNatClampNeg), .int (xs z15.toNatClampNeg), .ref 69], (m + 0, k + 0), hp11)) rfl rfl ?_
  refine Ev.step (j := 271) (s' := ([some (.retAddr 0), some (.ref 0), some (.ref 69), some (.ref 87), some (.int z), a5, a6], [.int z, .retAddr 0, .int (xs z17.toNatClampNeg), .int (xs z15.toNatClampNeg), .ref 69], (m + 0, k + 0), hp11)) rfl rfl ?_
  refine bs_lit (k := 3) rfl rfl fun z18 hz18 => ?_
  refine bs_add rfl (by omega) (by omega) fun z19 hz19 => ?_
  refine ls_sld rfl (by omega) (by omega) ?_
  refine (show Ev _ 274 ([some (.retAddr 0), some (.ref 0), some (.ref 69), some (.ref 87), some (.int z), a5, a6], [.int (xs z19.toNatClampNeg), .int (xs z17.toNatClampNeg), .int (xs z15.toNatClampNeg), .ref 69], (m + 0, k + 0), hp11) _ from ?_)
  refine Ev.step (j := 275) (s' := ([some (.retAddr 0), some (.ref 0), some (.ref 69), some (.ref 87), some (.int z), a5, a6], [.retAddr 0, .int (xs z19.toNatClampNeg), .int (xs z17.toNatClampNeg), .int (xs z15.toNatClampNeg), .ref 69], (m + 0, k + 0), hp11)) rfl rfl ?_
  refine Ev.step (j := 277) (s' := ([some (.retAddr 0), some (.ref 0), some (.ref 69), some (.ref 87), some (.int z), a5, a6], [.int z, .retAddr 0, .int (xs z19.toNatClampNeg), .int (xs z17.toNatClampNeg), .int (xs z15.toNatClampNeg), .ref 69], (m + 0, k + 0), hp11)) rfl rfl ?_
  refine bs_lit (k := 4) rfl rfl fun z20 hz20 => ?_
  refine bs_add rfl (by omega) (by omega) fun z21 hz21 => ?_
  refine ls_sld rfl (by omega) (by omega) ?_
  refine (show Ev _ 280 ([some (.retAddr 0), some (.ref 0), some (.ref 69), some (.ref 87), some (.int z), a5, a6], [.int (xs z21.toNatClampNeg), .int (xs z19.toNatClampNeg), .int (xs z17.toNatClampNeg), .int (xs z15.toNatClampNeg), .ref 69], (m + 0, k + 0), hp11) _ from ?_)
  refine Ev.step (j := 281) (s' := ([some (.retAddr 0), some (.ref 0), some (.ref 69), some (.ref 87), some (.int z), a5, a6], [.retAddr 0, .int (xs z21.toNatClampNeg), .int (xs z19.toNatClampNeg), .int (xs z17.toNatClampNeg), .int (xs z15.toNatClampNeg), .ref 69], (m + 0, k + 0), hp11)) rfl rfl ?_
  refine Ev.step (j := 283) (s' := ([some (.retAddr 0), some (.ref 0), some (.ref 69), some (.ref 87), some (.int z), a5, a6], [.int z, .retAddr 0, .int (xs z21.toNatClampNeg), .int (xs z19.toNatClampNeg), .int (xs z17.toNatClampNeg), .int (xs z15.toNatClampNeg), .ref 69], (m + 0, k + 0), hp11)) rfl rfl ?_
  refine bs_lit (k := 5) rfl rfl fun z22 hz22 => ?_
  refine bs_add rfl (by omega) (by omega) fun z23 hz23 => ?_
  refine ls_sld rfl (by omega) (by omega) ?_
  refine (show Ev _ 286 ([some (.retAddr 0), some (.ref 0), some (.ref 69), some (.ref 87), some (.int z), a5, a6], [.int (xs z23.toNatClampNeg), .int (xs z21.toNatClampNeg), .int (xs z19.toNatClampNeg), .int (xs z17.toNatClampNeg), .int (xs z15.toNatClampNeg), .ref 69], (m + 0, k + 0), hp11) _ from ?_)
  refine bs_callx (K := kq_X11_feed_b) [.ref 69, .int (xs z15.toNatClampNeg), .int (xs z17.toNatClampNeg), .int (xs z19.toNatClampNeg), .int (xs z21.toNatClampNeg), .int (xs z23.toNatClampNeg)] [] rfl ce_X11_feed_b Hhp11 rfl rfl rfl (bs_rcv (g := 11) Hhp11 (bs_R.uq Hhp11 (g := 11) rfl) (by decide) rfl) (ls_room (Nat.le_of_ble_eq_true rfl) (by omega) (by omega)) ?_ (sf_S_nil) fun r25 hp24 thp24 Hhp24 fhp24 ahp24 php24 xhp24 => ?_
  · intro q k h
    match q, h with
    | 0, h => cases h; exact bs_jR (bs_R.uq Hhp11 (g := 11) rfl)
    | 1, h => cases h; exact sf_j0
    | 2, h => cases h; exact sf_j0
    | 3, h => cases h; exact sf_j0
    | 4, h => cases h; exact sf_j0
    | 5, h => cases h; exact sf_j0
    | q + 6, h => cases h
  obtain ⟨z26, rfl⟩ := bs_anI ahp24
  have RS2 := RES_fr Hhp11 fhp24 rfl RS1
  have hc2 := (fhp24.2.2.1 _ (bs_R.uq Hhp11 (g := 8) (p := 1) rfl).1 1 (by rw [(bs_R.uq Hhp11 (g := 8) (p := 1) rfl).2]; rfl)).trans hc1
  have c2 : ∀ q, sf_rd hp24 2 q = sf_rd hp11 2 q := fun q => (fhp24.2.2.1 _ (bs_R.uq Hhp11 (g := 123) (p := 2) rfl).1 _ (by rw [(bs_R.uq Hhp11 (g := 123) (p := 2) rfl).2]; rfl))
  obtain ⟨w2, ew2, ez2, hr2, RA, RB⟩ := xhp24 v0 hr1
  obtain rfl := Value.int.inj (Option.some.inj ew2)
  have E : lw_tb hp24 := ⟨TB_feed (as := [.ref 0, .int (xs z2.toNatClampNeg), .int (xs z4.toNatClampNeg), .int (xs z6.toNatClampNeg), .int (xs z8.toNatClampNeg), .int (xs z10.toNatClampNeg)]) (bs := [.ref 69, .int (xs z15.toNatClampNeg), .int (xs z17.toNatClampNeg), .int (xs z19.toNatClampNeg), .int (xs z21.toNatClampNeg), .int (xs z23.toNatClampNeg)]) v00 v01 T0 hc2 hr2 c2 r1 CA RA CB RB (fun i hi => match i, hi with | 0, _ => ⟨_, rfl, by rw [show z15 = z2 from Int32.toInt_inj.mp (by omega)]; rfl⟩ | 1, _ => ⟨_, rfl, by rw [show z17 = z4 from Int32.toInt_inj.mp (by omega)]; rfl⟩ | 2, _ => ⟨_, rfl, by rw [show z19 = z6 from Int32.toInt_inj.mp (by omega)]; rfl⟩ | 3, _ => ⟨_, rfl, by rw [show z21 = z8 from Int32.toInt_inj.mp (by omega)]; rfl⟩ | 4, _ => ⟨_, rfl, by rw [show z23 = z10 from Int32.toInt_inj.mp (by omega)]; rfl⟩ | i + 5, h => absurd h (by omega)), RS2⟩
  obtain ⟨hX2, kc2⟩ := XRW (by rfl) (by rfl) Hhp11 Hhp24 fhp24 hC1.c hX1
  have hC2 := kc2 _ hC1
  refine (show Ev _ 289 ([some (.retAddr 0), some (.ref 0), some (.ref 69), some (.ref 87), some (.int z), a5, a6], [.int z26], (m + 0 + 0, k + 0 + 0), hp24) _ from ?_)
  refine Ev.step (j := 290) (s' := ([some (.retAddr 0), some (.ref 0), some (.ref 69), some (.ref 87), some (.int z), a5, a6], [], (m + 0 + 0, k + 0 + 0), hp24)) rfl rfl ?_
  refine Ev.step (j := 1468) (s' := ([some (.retAddr 0), some (.ref 0), some (.ref 69), some (.ref 87), some (.int z), a5, a6], [], (m + 0 + 0, k + 0 + 0), hp24)) rfl rfl ?_
  exact K _ _ _ _ _ _ Hhp24 ⟨E, D, hD, hC2, hX2⟩ (by omega) (by omega)
set_option maxRecDepth 100000 in
set_option maxHeartbeats 4000000 in
theorem op_end {xs : Nat → Int32} {n : Nat} {z : Int32} {a5 a6 : Option Value} {m k : Nat} {hp : ab_H} {t : Nat → Nat} {Q : ab_O → Prop} (H : sf_h t hp) (hs : lw_eq hp) (hz0 : 0 ≤ z.toInt) (hz1 : z.toInt + 6 ≤ n) (hn : n ≤ 3072) (hm : m + 21 ≤ 709736) (hk : k + 410 ≤ 6966897) (K : lw_K xs n z m k Q) : Ev (LT xs n) 293 ([some (.retAddr 0), some (.ref 0), some (.ref 69), some (.ref 87), some (.int z), a5, a6], [], (m, k), hp) Q := by
  obtain ⟨hs, D, hD, hC, hX⟩ := hs
  refine Ev.step (j := 294) (s' := ([some (.retAddr 0), some (.ref 0), some (.ref 69), some (.ref 87), some (.int z), a5, a6], [.ref 0], (m, k), hp)) rfl rfl ?_
  refine Ev.step (j := 295) (s' := ([some (.retAddr 0), some (.ref 0), some (.ref 69), some (.ref 87), some (.int z), a5, a6], [.retAddr 0, .ref 0], (m, k), hp)) rfl rfl ?_
  refine Ev.step (j := 297) (s' := ([some (.retAddr 0), some (.ref 0), some (.ref 69), some (.ref 87), some (.int z), a5, a6], [.int z, .retAddr 0, .ref 0], (m, k), hp)) rfl rfl ?_
  refine bs_lit (k := 1) rfl rfl fun z27 hz27 => ?_
  refine bs_add rfl (by omega) (by omega) fun z28 hz28 => ?_
  refine ls_sld rfl (by omega) (by omega) ?_
  refine (show Ev _ 300 ([some (.retAddr 0), some (.ref 0), some (.ref 69), some (.ref 87), some (.int z), a5, a6], [.int (xs z28.toNatClampNeg), .ref 0], (m, k), hp) _ from ?_)
  refine bs_callx (K := kq_X10_end_h) [.ref 0, .int (xs z28.toNatClampNeg)] [] rfl ce_X10_end_h H rfl rfl rfl (bs_rcv (g := 10) H (bs_R.uq H (g := 10) rfl) (by decide) rfl) (ls_room (Nat.le_of_ble_eq_true rfl) (by omega) (by omega)) ?_ (sf_S_nil) fun r30 hp29 thp29 Hhp29 fhp29 ahp29 php29 xhp29 => ?_
  · intro q k h
    match q, h with
    | 0, h => cases h; exact bs_jR (bs_R.uq H (g := 10) rfl)
    | 1, h => cases h; exact sf_j0
    | q + 2, h => cases h
  obtain ⟨z31, rfl⟩ := bs_anI ahp29
  obtain ⟨⟨v0, hc0, hr0, v00, v01, T0⟩, RS⟩ := hs
  have RS1 := RES_fr H fhp29 rfl RS
  have hr1 : sf_rd hp29 69 2 = some v0 := (fhp29.2.2.1 _ (bs_R.uq H (g := 11) (p := 69) rfl).1 _ (by rw [(bs_R.uq H (g := 11) (p := 69) rfl).2]; rfl)).trans hr0
  have r1 : ∀ q, sf_rd hp29 70 q = sf_rd hp 70 q := fun q => (fhp29.2.2.1 _ (bs_R.uq H (g := 131) (p := 70) rfl).1 _ (by rw [(bs_R.uq H (g := 131) (p := 70) rfl).2]; rfl))
  have hc1 := xhp29 v0 _ rfl hc0
  have c1 : ∀ q, sf_rd hp29 2 q = sf_rd hp 2 q := fun q => (fhp29.2.2.1 _ (bs_R.uq H (g := 123) (p := 2) rfl).1 _ (by rw [(bs_R.uq H (g := 123) (p := 2) rfl).2]; rfl))
  obtain ⟨hC1, kx1⟩ := CRW (by rfl) H Hhp29 fhp29 hC
  have hX1 := kx1 _ hX
  refine (show Ev _ 303 ([some (.retAddr 0), some (.ref 0), some (.ref 69), some (.ref 87), some (.int z), a5, a6], [.int z31], (m + 0, k + 0), hp29) _ from ?_)
  refine Ev.step (j := 304) (s' := ([some (.retAddr 0), some (.ref 0), some (.ref 69), some (.ref 87), some (.int z), a5, a6], [], (m + 0, k + 0), hp29)) rfl rfl ?_
  refine Ev.step (j := 305) (s' := ([some (.retAddr 0), some (.ref 0), some (.ref 69), some (.ref 87), some (.int z), a5, a6], [.ref 69], (m + 0, k + 0), hp29)) rfl rfl ?_
  refine Ev.step (j := 306) (s' := ([some (.retAddr 0), some (.ref 0), some (.ref 69), some (.ref 87), some (.int z), a5, a6], [.retAddr 0, .ref 69], (m + 0, k + 0), hp29)) rfl rfl ?_
  refine Ev.step (j := 308) (s' := ([some (.retAddr 0), some (.ref 0), some (.ref 69), some (.ref 87), some (.int z), a5, a6], [.int z, .retAddr 0, .ref 69], (m + 0, k + 0), hp29)) rfl rfl ?_
  refine bs_lit (k := 1) rfl rfl fun z32 hz32 => ?_
  refine bs_add rfl (by omega) (by omega) fun z33 hz33 => ?_
  refine ls_sld rfl (by omega) (by omega) ?_
  refine (show Ev _ 311 ([some (.retAddr 0), some (.ref 0), some (.ref 69), some (.ref 87), some (.int z), a5, a6], [.int (xs z33.toNatClampNeg), .ref 69], (m + 0, k + 0), hp29) _ from ?_)
  refine bs_callx (K := kq_X11_end_h) [.ref 69, .int (xs z33.toNatClampNeg)] [] rfl ce_X11_end_h Hhp29 rfl rfl rfl (bs_rcv (g := 11) Hhp29 (bs_R.uq Hhp29 (g := 11) rfl) (by decide) rfl) (ls_room (Nat.le_of_ble_eq_true rfl) (by omega) (by omega)) ?_ (sf_S_nil) fun r35 hp34 thp34 Hhp34 fhp34 ahp34 php34 xhp34 => ?_
  · intro q k h
    match q, h with
    | 0, h => cases h; exact bs_jR (bs_R.uq Hhp29 (g := 11) rfl)
    | 1, h => cases h; exact sf_j0
    | q + 2, h => cases h
  obtain ⟨z36, rfl⟩ := bs_anI ahp34
  have RS2 := RES_fr Hhp29 fhp34 rfl RS1
  have hc2 := (fhp34.2.2.1 _ (bs_R.uq Hhp29 (g := 8) (p := 1) rfl).1 1 (by rw [(bs_R.uq Hhp29 (g := 8) (p := 1) rfl).2]; rfl)).trans hc1
  have c2 : ∀ q, sf_rd hp34 2 q = sf_rd hp29 2 q := fun q => (fhp34.2.2.1 _ (bs_R.uq Hhp29 (g := 123) (p := 2) rfl).1 _ (by rw [(bs_R.uq Hhp29 (g := 123) (p := 2) rfl).2]; rfl))
  have hr2 := xhp34 v0 _ rfl hr1
  rw [show z33 = z28 from Int32.toInt_inj.mp (by omega)] at hr2
  have r2 : ∀ q, sf_rd hp34 70 q = sf_rd hp29 70 q := fun q => (fhp34.2.2.1 _ (bs_R.uq Hhp29 (g := 131) (p := 70) rfl).1 _ (by rw [(bs_R.uq Hhp29 (g := 131) (p := 70) rfl).2]; rfl))
  have E : lw_tb hp34 := ⟨TB_end v00 v01 T0 hc2 hr2 (fun q => (c2 q).trans (c1 q)) (fun q => (r2 q).trans (r1 q)), RS2⟩
  obtain ⟨hX2, kc2⟩ := XRW (by rfl) (by rfl) Hhp29 Hhp34 fhp34 hC1.c hX1
  have hC2 := kc2 _ hC1
  refine (show Ev _ 314 ([some (.retAddr 0), some (.ref 0), some (.ref 69), some (.ref 87), some (.int z), a5, a6], [.int z36], (m + 0 + 0, k + 0 + 0), hp34) _ from ?_)
  refine Ev.step (j := 315) (s' := ([some (.retAddr 0), some (.ref 0), some (.ref 69), some (.ref 87), some (.int z), a5, a6], [], (m + 0 + 0, k + 0 + 0), hp34)) rfl rfl ?_
  refine Ev.step (j := 1468) (s' := ([some (.retAddr 0), some (.ref 0), some (.ref 69), some (.ref 87), some (.int z), a5, a6], [], (m + 0 + 0, k + 0 + 0), hp34)) rfl rfl ?_
  exact K _ _ _ _ _ _ Hhp34 ⟨E, D, hD, hC2, hX2⟩ (by omega) (by omega)
set_option maxRecDepth 100000 in
set_option maxHeartbeats 4000000 in
theorem op_strait {xs : Nat → Int32} {n : Nat} {z : Int32} {a5 a6 : Option Value} {m k : Nat} {hp : ab_H} {t : Nat → Nat} {Q : ab_O → Prop} (H : sf_h t hp) (hs : lw_eq hp) (hz0 : 0 ≤ z.toInt) (hz1 : z.toInt + 6 ≤ n) (hn : n ≤ 3072) (hm : m + 21 ≤ 709736) (hk : k + 410 ≤ 6966897) (K : lw_K xs n z m k Q) : Ev (LT xs n) 318 ([some (.retAddr 0), some (.ref 0), some (.ref 69), some (.ref 87), some (.int z), a5, a6], [], (m, k), hp) Q := by
  obtain ⟨hs, D, hD, hC, hX⟩ := hs
  obtain ⟨tn, htn, hsn, hn2, hbv⟩ := TB_n hs.1
  refine Ev.step (j := 319) (s' := ([some (.retAddr 0), some (.ref 0), some (.ref 69), some (.ref 87), some (.int z), a5, a6], [.ref 0], (m, k), hp)) rfl rfl ?_
  refine bs_callx (K := kq_X10_strait_v) [.ref 0] [] rfl (sf_cXE ce_X10_strait_v) H rfl rfl rfl (bs_rcv (g := 10) H (bs_R.uq H (g := 10) rfl) (by decide) rfl) (ls_room (Nat.le_of_ble_eq_true rfl) (by omega) (by omega)) ?_ (sf_S_nil) fun r38 hp37 thp37 Hhp37 fhp37 ahp37 php37 xhp37 => ?_
  · intro q k h
    match q, h with
    | 0, h => cases h; exact bs_jR (bs_R.uq H (g := 10) rfl)
    | q + 1, h => cases h
  obtain ⟨z39, rfl⟩ := bs_anI ahp37
  obtain ⟨⟨v0, hc0, hr0, v00, v01, T0⟩, RS⟩ := hs
  have RS1 := RES_fr H fhp37 rfl RS
  have hr1 : sf_rd hp37 69 2 = some v0 := (fhp37.2.2.1 _ (bs_R.uq H (g := 11) (p := 69) rfl).1 _ (by rw [(bs_R.uq H (g := 11) (p := 69) rfl).2]; rfl)).trans hr0
  have r1 : ∀ q, sf_rd hp37 70 q = sf_rd hp 70 q := fun q => (fhp37.2.2.1 _ (bs_R.uq H (g := 131) (p := 70) rfl).1 _ (by rw [(bs_R.uq H (g := 131) (p := 70) rfl).2]; rfl))
  obtain ⟨w1, f1, s1, ew1, A1, K18, hc1⟩ := xhp37.1 v0 hc0
  obtain rfl := Value.int.inj (Option.some.inj ew1)
  have hsm : sf_rd hp37 69 2 = some (tn : Int) := (fhp37.2.2.1 _ (bs_R.uq H (g := 11) (p := 69) rfl).1 _ (by rw [(bs_R.uq H (g := 11) (p := 69) rfl).2]; rfl)).trans hn2
  have hb : bv hp37 70 tn = bv hp 2 tn := (bv_same (fun q => (fhp37.2.2.1 _ (bs_R.uq H (g := 131) (p := 70) rfl).1 _ (by rw [(bs_R.uq H (g := 131) (p := 70) rfl).2]; rfl)))).trans hbv
  refine (show Ev _ 322 ([some (.retAddr 0), some (.ref 0), some (.ref 69), some (.ref 87), some (.int z), a5, a6], [.int z39], (m + 0, k + 0), hp37) _ from ?_)
  refine Ev.step (j := 323) (s' := ([some (.retAddr 0), some (.ref 0), some (.ref 69), some (.ref 87), some (.int z), a5, a6], [], (m + 0, k + 0), hp37)) rfl rfl ?_
  refine Ev.step (j := 324) (s' := ([some (.retAddr 0), some (.ref 0), some (.ref 69), some (.ref 87), some (.int z), a5, a6], [.ref 69], (m + 0, k + 0), hp37)) rfl rfl ?_
  refine bs_callp (K := kq_X11_strait_v) [.ref 69] [] rfl (sf_cXG cp_X11_strait_v) RS1 Hhp37 rfl rfl rfl (bs_rcv (g := 11) Hhp37 (bs_R.uq Hhp37 (g := 11) rfl) (by decide) rfl) (ls_room (Nat.le_of_ble_eq_true rfl) (by omega) (by omega)) ?_ (sf_S_nil) fun r41 hp40 thp40 Hhp40 fhp40 ahp40 php40 xhp40 => ?_
  · intro q k h
    match q, h with
    | 0, h => cases h; exact bs_jR (bs_R.uq Hhp37 (g := 11) rfl)
    | q + 1, h => cases h
  obtain ⟨z42, rfl⟩ := bs_anI ahp40
  have RS2 := RES_fr Hhp37 fhp40 rfl RS1
  have hc2 := (fhp40.2.2.1 _ (bs_R.uq Hhp37 (g := 8) (p := 1) rfl).1 1 (by rw [(bs_R.uq Hhp37 (g := 8) (p := 1) rfl).2]; rfl)).trans hc1
  obtain ⟨w2, f2, s2, ew2, A2, hr2⟩ := xhp40.1 v0 hr1
  obtain rfl := Value.int.inj (Option.some.inj ew2)
  rw [(bv_same r1).trans (TB_bv T0)] at A2
  have EA := (ANS_one A1 A2).1
  have E : lw_tb hp40 := ⟨TB_zero hc2 hr2, RS2⟩
  obtain ⟨⟨D2, hD2, hC2, hX2⟩, ef⟩ := lw_strait H Hhp37 ce_X8_moveInto_v hD hC hX htn hsn hsm hb xhp37.2 xhp40.2
  refine (show Ev _ 327 ([some (.retAddr 0), some (.ref 0), some (.ref 69), some (.ref 87), some (.int z), a5, a6], [.int z42], (m + 0 + 0, k + 0 + 0), hp40) _ from ?_)
  refine Ev.step (j := 328) (s' := ([some (.retAddr 0), some (.ref 0), some (.ref 69), some (.ref 87), some (.int z), a5, a6], [], (m + 0 + 0, k + 0 + 0), hp40)) rfl rfl ?_
  refine Ev.step (j := 1468) (s' := ([some (.retAddr 0), some (.ref 0), some (.ref 69), some (.ref 87), some (.int z), a5, a6], [], (m + 0 + 0, k + 0 + 0), hp40)) rfl rfl ?_
  exact K _ _ _ _ _ _ Hhp40 ⟨E, D2, hD2, hC2, hX2⟩ (by omega) (by omega)
set_option maxRecDepth 100000 in
set_option maxHeartbeats 4000000 in
theorem op_fault {xs : Nat → Int32} {n : Nat} {z : Int32} {a5 a6 : Option Value} {m k : Nat} {hp : ab_H} {t : Nat → Nat} {Q : ab_O → Prop} (H : sf_h t hp) (hs : lw_eq hp) (hz0 : 0 ≤ z.toInt) (hz1 : z.toInt + 6 ≤ n) (hn : n ≤ 3072) (hm : m + 21 ≤ 709736) (hk : k + 410 ≤ 6966897) (K : lw_K xs n z m k Q) : Ev (LT xs n) 331 ([some (.retAddr 0), some (.ref 0), some (.ref 69), some (.ref 87), some (.int z), a5, a6], [], (m, k), hp) Q := by
  obtain ⟨hs, D, hD, hC, hX⟩ := hs
  refine Ev.step (j := 332) (s' := ([some (.retAddr 0), some (.ref 0), some (.ref 69), some (.ref 87), some (.int z), a5, a6], [.ref 0], (m, k), hp)) rfl rfl ?_
  refine bs_callx (K := kq_X10_fault_4c18a7) [.ref 0] [] rfl (sf_cX ct_X10_fault_4c18a7) H rfl rfl rfl (bs_rcv (g := 10) H (bs_R.uq H (g := 10) rfl) (by decide) rfl) (ls_room (Nat.le_of_ble_eq_true rfl) (by omega) (by omega)) ?_ (sf_S_nil) fun r44 hp43 thp43 Hhp43 fhp43 ahp43 php43 xhp43 => ?_
  · intro q k h
    match q, h with
    | 0, h => cases h; exact bs_jR (bs_R.uq H (g := 10) rfl)
    | q + 1, h => cases h
  obtain ⟨z45, rfl⟩ := bs_anI ahp43
  have E46 := lw_keep H fhp43 rfl rfl rfl rfl rfl hs
  obtain ⟨ew1, hC1, hX1⟩ := pC H (d_fault hC) xhp43 hX
  refine (show Ev _ 335 ([some (.retAddr 0), some (.ref 0), some (.ref 69), some (.ref 87), some (.int z), a5, a6], [.int z45], (m + 0, k + 0), hp43) _ from ?_)
  refine Ev.step (j := 336) (s' := ([some (.retAddr 0), some (.ref 0), some (.ref 69), some (.ref 87), some (.int z), a5, a6], [], (m + 0, k + 0), hp43)) rfl rfl ?_
  refine Ev.step (j := 337) (s' := ([some (.retAddr 0), some (.ref 0), some (.ref 69), some (.ref 87), some (.int z), a5, a6], [.ref 69], (m + 0, k + 0), hp43)) rfl rfl ?_
  refine bs_callx (K := kq_X11_fault_6afe8b) [.ref 69] [] rfl (sf_cX ct_X11_fault_6afe8b) Hhp43 rfl rfl rfl (bs_rcv (g := 11) Hhp43 (bs_R.uq Hhp43 (g := 11) rfl) (by decide) rfl) (ls_room (Nat.le_of_ble_eq_true rfl) (by omega) (by omega)) ?_ (sf_S_nil) fun r48 hp47 thp47 Hhp47 fhp47 ahp47 php47 xhp47 => ?_
  · intro q k h
    match q, h with
    | 0, h => cases h; exact bs_jR (bs_R.uq Hhp43 (g := 11) rfl)
    | q + 1, h => cases h
  obtain ⟨z49, rfl⟩ := bs_anI ahp47
  have E50 := lw_keep Hhp43 fhp47 rfl rfl rfl rfl rfl E46
  obtain ⟨ew2, hX2, hC2⟩ := pX Hhp43 (e_fault hX1) xhp47 hC1
  refine (show Ev _ 340 ([some (.retAddr 0), some (.ref 0), some (.ref 69), some (.ref 87), some (.int z), a5, a6], [.int z49], (m + 0 + 0, k + 0 + 0), hp47) _ from ?_)
  refine Ev.step (j := 341) (s' := ([some (.retAddr 0), some (.ref 0), some (.ref 69), some (.ref 87), some (.int z), a5, a6], [], (m + 0 + 0, k + 0 + 0), hp47)) rfl rfl ?_
  refine Ev.step (j := 1468) (s' := ([some (.retAddr 0), some (.ref 0), some (.ref 69), some (.ref 87), some (.int z), a5, a6], [], (m + 0 + 0, k + 0 + 0), hp47)) rfl rfl ?_
  exact K _ _ _ _ _ _ Hhp47 ⟨E50, _, hD, hC2, hX2⟩ (by omega) (by omega)
set_option maxRecDepth 100000 in
set_option maxHeartbeats 4000000 in
theorem op_good {xs : Nat → Int32} {n : Nat} {z : Int32} {a5 a6 : Option Value} {m k : Nat} {hp : ab_H} {t : Nat → Nat} {Q : ab_O → Prop} (H : sf_h t hp) (hs : lw_eq hp) (hz0 : 0 ≤ z.toInt) (hz1 : z.toInt + 6 ≤ n) (hn : n ≤ 3072) (hm : m + 21 ≤ 709736) (hk : k + 410 ≤ 6966897) (K : lw_K xs n z m k Q) : Ev (LT xs n) 344 ([some (.retAddr 0), some (.ref 0), some (.ref 69), some (.ref 87), some (.int z), a5, a6], [], (m, k), hp) Q := by
  obtain ⟨hs, D, hD, hC, hX⟩ := hs
  refine Ev.step (j := 345) (s' := ([some (.retAddr 0), some (.ref 0), some (.ref 69), some (.ref 87), some (.int z), a5, a6], [.ref 0], (m, k), hp)) rfl rfl ?_
  refine Ev.step (j := 346) (s' := ([some (.retAddr 0), some (.ref 0), some (.ref 69), some (.ref 87), some (.int z), a5, a6], [.retAddr 0, .ref 0], (m, k), hp)) rfl rfl ?_
  refine Ev.step (j := 348) (s' := ([some (.retAddr 0), some (.ref 0), some (.ref 69), some (.ref 87), some (.int z), a5, a6], [.int z, .retAddr 0, .ref 0], (m, k), hp)) rfl rfl ?_
  refine bs_lit (k := 1) rfl rfl fun z51 hz51 => ?_
  refine bs_add rfl (by omega) (by omega) fun z52 hz52 => ?_
  refine ls_sld rfl (by omega) (by omega) ?_
  refine (show Ev _ 351 ([some (.retAddr 0), some (.ref 0), some (.ref 69), some (.ref 87), some (.int z), a5, a6], [.int (xs z52.toNatClampNeg), .ref 0], (m, k), hp) _ from ?_)
  refine Ev.step (j := 352) (s' := ([some (.retAddr 0), some (.ref 0), some (.ref 69), some (.ref 87), some (.int z), a5, a6], [.retAddr 0, .int (xs z52.toNatClampNeg), .ref 0], (m, k), hp)) rfl rfl ?_
  refine Ev.step (j := 354) (s' := ([some (.retAddr 0), some (.ref 0), some (.ref 69), some (.ref 87), some (.int z), a5, a6], [.int z, .retAddr 0, .int (xs z52.toNatClampNeg), .ref 0], (m, k), hp)) rfl rfl ?_
  refine bs_lit (k := 2) rfl rfl fun z53 hz53 => ?_
  refine bs_add rfl (by omega) (by omega) fun z54 hz54 => ?_
  refine ls_sld rfl (by omega) (by omega) ?_
  refine (show Ev _ 357 ([some (.retAddr 0), some (.ref 0), some (.ref 69), some (.ref 87), some (.int z), a5, a6], [.int (xs z54.toNatClampNeg), .int (xs z52.toNatClampNeg), .ref 0], (m, k), hp) _ from ?_)
  refine Ev.step (j := 358) (s' := ([some (.retAddr 0), some (.ref 0), some (.ref 69), some (.ref 87), some (.int z), a5, a6], [.retAddr 0, .int (xs z54.toNatClampNeg), .int (xs z52.toNatClampNeg), .ref 0], (m, k), hp)) rfl rfl ?_
  refine Ev.step (j := 360) (s' := ([some (.retAddr 0), some (.ref 0), some (.ref 69), some (.ref 87), some (.int z), a5, a6], [.int z, .retAddr 0, .int (xs z54.toNatClampNeg), .int (xs z52.toNatClampNeg), .ref 0], (m, k), hp)) rfl rfl ?_
  refine bs_lit (k := 3) rfl rfl fun z55 hz55 => ?_
  refine bs_add rfl (by omega) (by omega) fun z56 hz56 => ?_
  refine ls_sld rfl (by omega) (by omega) ?_
  refine (show Ev _ 363 ([some (.retAddr 0), some (.ref 0), some (.ref 69), some (.ref 87), some (.int z), a5, a6], [.int (xs z56.toNatClampNeg), .int (xs z54.toNatClampNeg), .int (xs z52.toNatClampNeg), .ref 0], (m, k), hp) _ from ?_)
  refine bs_callx (K := kq_X10_good_7e6f69) [.ref 0, .int (xs z52.toNatClampNeg), .int (xs z54.toNatClampNeg), .int (xs z56.toNatClampNeg)] [] rfl (sf_cX ct_X10_good_7e6f69) H rfl rfl rfl (bs_rcv (g := 10) H (bs_R.uq H (g := 10) rfl) (by decide) rfl) (ls_room (Nat.le_of_ble_eq_true rfl) (by omega) (by omega)) ?_ (sf_S_nil) fun r58 hp57 thp57 Hhp57 fhp57 ahp57 php57 xhp57 => ?_
  · intro q k h
    match q, h with
    | 0, h => cases h; exact bs_jR (bs_R.uq H (g := 10) rfl)
    | 1, h => cases h; exact sf_j0
    | 2, h => cases h; exact sf_j0
    | 3, h => cases h; exact sf_j0
    | q + 4, h => cases h
  obtain ⟨z59, rfl⟩ := bs_anI ahp57
  have E60 := lw_keep H fhp57 rfl rfl rfl rfl rfl hs
  obtain ⟨ew1, hC1, hX1⟩ := pC H (d_good hC hD _ _ _) xhp57 hX
  refine (show Ev _ 366 ([some (.retAddr 0), some (.ref 0), some (.ref 69), some (.ref 87), some (.int z), a5, a6], [.int z59], (m + 0, k + 0), hp57) _ from ?_)
  refine Ev.step (j := 367) (s' := ([some (.retAddr 0), some (.ref 0), some (.ref 69), some (.ref 87), some (.int z), a5, a6], [], (m + 0, k + 0), hp57)) rfl rfl ?_
  refine Ev.step (j := 368) (s' := ([some (.retAddr 0), some (.ref 0), some (.ref 69), some (.ref 87), some (.int z), a5, a6], [.ref 69], (m + 0, k + 0), hp57)) rfl rfl ?_
  refine Ev.step (j := 369) (s' := ([some (.retAddr 0), some (.ref 0), some (.ref 69), some (.ref 87), some (.int z), a5, a6], [.retAddr 0, .ref 69], (m + 0, k + 0), hp57)) rfl rfl ?_
  refine Ev.step (j := 371) (s' := ([some (.retAddr 0), some (.ref 0), some (.ref 69), some (.ref 87), some (.int z), a5, a6], [.int z, .retAddr 0, .ref 69], (m + 0, k + 0), hp57)) rfl rfl ?_
  refine bs_lit (k := 1) rfl rfl fun z61 hz61 => ?_
  refine bs_add rfl (by omega) (by omega) fun z62 hz62 => ?_
  refine ls_sld rfl (by omega) (by omega) ?_
  refine (show Ev _ 374 ([some (.retAddr 0), some (.ref 0), some (.ref 69), some (.ref 87), some (.int z), a5, a6], [.int (xs z62.toNatClampNeg), .ref 69], (m + 0, k + 0), hp57) _ from ?_)
  refine Ev.step (j := 375) (s' := ([some (.retAddr 0), some (.ref 0), some (.ref 69), some (.ref 87), some (.int z), a5, a6], [.retAddr 0, .int (xs z62.toNatClampNeg), .ref 69], (m + 0, k + 0), hp57)) rfl rfl ?_
  refine Ev.step (j := 377) (s' := ([some (.retAddr 0), some (.ref 0), some (.ref 69), some (.ref 87), some (.int z), a5, a6], [.int z, .retAddr 0, .int (xs z62.toNatClampNeg), .ref 69], (m + 0, k + 0), hp57)) rfl rfl ?_
  refine bs_lit (k := 2) rfl rfl fun z63 hz63 => ?_
  refine bs_add rfl (by omega) (by omega) fun z64 hz64 => ?_
  refine ls_sld rfl (by omega) (by omega) ?_
  refine (show Ev _ 380 ([some (.retAddr 0), some (.ref 0), some (.ref 69), some (.ref 87), some (.int z), a5, a6], [.int (xs z64.toNatClampNeg), .int (xs z62.toNatClampNeg), .ref 69], (m + 0, k + 0), hp57) _ from ?_)
  refine Ev.step (j := 381) (s' := ([some (.retAddr 0), some (.ref 0), some (.ref 69), some (.ref 87), some (.int z), a5, a6], [.retAddr 0, .int (xs z64.toNatClampNeg), .int (xs z62.toNatClampNeg), .ref 69], (m + 0, k + 0), hp57)) rfl rfl ?_
  refine Ev.step (j := 383) (s' := ([some (.retAddr 0), some (.ref 0), some (.ref 69), some (.ref 87), some (.int z), a5, a6], [.int z, .retAddr 0, .int (xs z64.toNatClampNeg), .int (xs z62.toNatClampNeg), .ref 69], (m + 0, k + 0), hp57)) rfl rfl ?_
  refine bs_lit (k := 3) rfl rfl fun z65 hz65 => ?_
  refine bs_add rfl (by omega) (by omega) fun z66 hz66 => ?_
  refine ls_sld rfl (by omega) (by omega) ?_
  refine (show Ev _ 386 ([some (.retAddr 0), some (.ref 0), some (.ref 69), some (.ref 87), some (.int z), a5, a6], [.int (xs z66.toNatClampNeg), .int (xs z64.toNatClampNeg), .int (xs z62.toNatClampNeg), .ref 69], (m + 0, k + 0), hp57) _ from ?_)
  refine bs_callx (K := kq_X11_good_3518ea) [.ref 69, .int (xs z62.toNatClampNeg), .int (xs z64.toNatClampNeg), .int (xs z66.toNatClampNeg)] [] rfl (sf_cX ct_X11_good_3518ea) Hhp57 rfl rfl rfl (bs_rcv (g := 11) Hhp57 (bs_R.uq Hhp57 (g := 11) rfl) (by decide) rfl) (ls_room (Nat.le_of_ble_eq_true rfl) (by omega) (by omega)) ?_ (sf_S_nil) fun r68 hp67 thp67 Hhp67 fhp67 ahp67 php67 xhp67 => ?_
  · intro q k h
    match q, h with
    | 0, h => cases h; exact bs_jR (bs_R.uq Hhp57 (g := 11) rfl)
    | 1, h => cases h; exact sf_j0
    | 2, h => cases h; exact sf_j0
    | 3, h => cases h; exact sf_j0
    | q + 4, h => cases h
  obtain ⟨z69, rfl⟩ := bs_anI ahp67
  have E70 := lw_keep Hhp57 fhp67 rfl rfl rfl rfl rfl E60
  rw [show z62 = z52 from Int32.toInt_inj.mp (by omega)] at xhp67
  rw [show z64 = z54 from Int32.toInt_inj.mp (by omega)] at xhp67
  rw [show z66 = z56 from Int32.toInt_inj.mp (by omega)] at xhp67
  obtain ⟨ew2, hX2, hC2⟩ := pX Hhp57 (e_good hX1 hD _ _ _) xhp67 hC1
  refine (show Ev _ 389 ([some (.retAddr 0), some (.ref 0), some (.ref 69), some (.ref 87), some (.int z), a5, a6], [.int z69], (m + 0 + 0, k + 0 + 0), hp67) _ from ?_)
  refine Ev.step (j := 390) (s' := ([some (.retAddr 0), some (.ref 0), some (.ref 69), some (.ref 87), some (.int z), a5, a6], [], (m + 0 + 0, k + 0 + 0), hp67)) rfl rfl ?_
  refine Ev.step (j := 1468) (s' := ([some (.retAddr 0), some (.ref 0), some (.ref 69), some (.ref 87), some (.int z), a5, a6], [], (m + 0 + 0, k + 0 + 0), hp67)) rfl rfl ?_
  exact K _ _ _ _ _ _ Hhp67 ⟨E70, _, hD, hC2, hX2⟩ (by omega) (by omega)
set_option maxRecDepth 100000 in
set_option maxHeartbeats 4000000 in
theorem op_crossed {xs : Nat → Int32} {n : Nat} {z : Int32} {a5 a6 : Option Value} {m k : Nat} {hp : ab_H} {t : Nat → Nat} {Q : ab_O → Prop} (H : sf_h t hp) (hs : lw_eq hp) (hz0 : 0 ≤ z.toInt) (hz1 : z.toInt + 6 ≤ n) (hn : n ≤ 3072) (hm : m + 21 ≤ 709736) (hk : k + 410 ≤ 6966897) (K : lw_K xs n z m k Q) : Ev (LT xs n) 393 ([some (.retAddr 0), some (.ref 0), some (.ref 69), some (.ref 87), some (.int z), a5, a6], [], (m, k), hp) Q := by
  obtain ⟨hs, D, hD, hC, hX⟩ := hs
  refine Ev.step (j := 394) (s' := ([some (.retAddr 0), some (.ref 0), some (.ref 69), some (.ref 87), some (.int z), a5, a6], [.ref 0], (m, k), hp)) rfl rfl ?_
  refine Ev.step (j := 395) (s' := ([some (.retAddr 0), some (.ref 0), some (.ref 69), some (.ref 87), some (.int z), a5, a6], [.retAddr 0, .ref 0], (m, k), hp)) rfl rfl ?_
  refine Ev.step (j := 397) (s' := ([some (.retAddr 0), some (.ref 0), some (.ref 69), some (.ref 87), some (.int z), a5, a6], [.int z, .retAddr 0, .ref 0], (m, k), hp)) rfl rfl ?_
  refine bs_lit (k := 1) rfl rfl fun z71 hz71 => ?_
  refine bs_add rfl (by omega) (by omega) fun z72 hz72 => ?_
  refine ls_sld rfl (by omega) (by omega) ?_
  refine (show Ev _ 400 ([some (.retAddr 0), some (.ref 0), some (.ref 69), some (.ref 87), some (.int z), a5, a6], [.int (xs z72.toNatClampNeg), .ref 0], (m, k), hp) _ from ?_)
  refine Ev.step (j := 401) (s' := ([some (.retAddr 0), some (.ref 0), some (.ref 69), some (.ref 87), some (.int z), a5, a6], [.retAddr 0, .int (xs z72.toNatClampNeg), .ref 0], (m, k), hp)) rfl rfl ?_
  refine Ev.step (j := 403) (s' := ([some (.retAddr 0), some (.ref 0), some (.ref 69), some (.ref 87), some (.int z), a5, a6], [.int z, .retAddr 0, .int (xs z72.toNatClampNeg), .ref 0], (m, k), hp)) rfl rfl ?_
  refine bs_lit (k := 2) rfl rfl fun z73 hz73 => ?_
  refine bs_add rfl (by omega) (by omega) fun z74 hz74 => ?_
  refine ls_sld rfl (by omega) (by omega) ?_
  refine (show Ev _ 406 ([some (.retAddr 0), some (.ref 0), some (.ref 69), some (.ref 87), some (.int z), a5, a6], [.int (xs z74.toNatClampNeg), .int (xs z72.toNatClampNeg), .ref 0], (m, k), hp) _ from ?_)
  refine bs_callx (K := kq_X10_crossed_57b5ea) [.ref 0, .int (xs z72.toNatClampNeg), .int (xs z74.toNatClampNeg)] [] rfl (sf_cX ct_X10_crossed_57b5ea) H rfl rfl rfl (bs_rcv (g := 10) H (bs_R.uq H (g := 10) rfl) (by decide) rfl) (ls_room (Nat.le_of_ble_eq_true rfl) (by omega) (by omega)) ?_ (sf_S_nil) fun r76 hp75 thp75 Hhp75 fhp75 ahp75 php75 xhp75 => ?_
  · intro q k h
    match q, h with
    | 0, h => cases h; exact bs_jR (bs_R.uq H (g := 10) rfl)
    | 1, h => cases h; exact sf_j0
    | 2, h => cases h; exact sf_j0
    | q + 3, h => cases h
  obtain ⟨z77, rfl⟩ := bs_anI ahp75
  have E78 := lw_keep H fhp75 rfl rfl rfl rfl rfl hs
  obtain ⟨ew1, hC1, hX1⟩ := pC H (d_crossed hC hD _ _) xhp75 hX
  refine (show Ev _ 409 ([some (.retAddr 0), some (.ref 0), some (.ref 69), some (.ref 87), some (.int z), a5, a6], [.int z77], (m + 0, k + 0), hp75) _ from ?_)
  refine Ev.step (j := 410) (s' := ([some (.retAddr 0), some (.ref 0), some (.ref 69), some (.ref 87), some (.int z), a5, a6], [], (m + 0, k + 0), hp75)) rfl rfl ?_
  refine Ev.step (j := 411) (s' := ([some (.retAddr 0), some (.ref 0), some (.ref 69), some (.ref 87), some (.int z), a5, a6], [.ref 69], (m + 0, k + 0), hp75)) rfl rfl ?_
  refine Ev.step (j := 412) (s' := ([some (.retAddr 0), some (.ref 0), some (.ref 69), some (.ref 87), some (.int z), a5, a6], [.retAddr 0, .ref 69], (m + 0, k + 0), hp75)) rfl rfl ?_
  refine Ev.step (j := 414) (s' := ([some (.retAddr 0), some (.ref 0), some (.ref 69), some (.ref 87), some (.int z), a5, a6], [.int z, .retAddr 0, .ref 69], (m + 0, k + 0), hp75)) rfl rfl ?_
  refine bs_lit (k := 1) rfl rfl fun z79 hz79 => ?_
  refine bs_add rfl (by omega) (by omega) fun z80 hz80 => ?_
  refine ls_sld rfl (by omega) (by omega) ?_
  refine (show Ev _ 417 ([some (.retAddr 0), some (.ref 0), some (.ref 69), some (.ref 87), some (.int z), a5, a6], [.int (xs z80.toNatClampNeg), .ref 69], (m + 0, k + 0), hp75) _ from ?_)
  refine Ev.step (j := 418) (s' := ([some (.retAddr 0), some (.ref 0), some (.ref 69), some (.ref 87), some (.int z), a5, a6], [.retAddr 0, .int (xs z80.toNatClampNeg), .ref 69], (m + 0, k + 0), hp75)) rfl rfl ?_
  refine Ev.step (j := 420) (s' := ([some (.retAddr 0), some (.ref 0), some (.ref 69), some (.ref 87), some (.int z), a5, a6], [.int z, .retAddr 0, .int (xs z80.toNatClampNeg), .ref 69], (m + 0, k + 0), hp75)) rfl rfl ?_
  refine bs_lit (k := 2) rfl rfl fun z81 hz81 => ?_
  refine bs_add rfl (by omega) (by omega) fun z82 hz82 => ?_
  refine ls_sld rfl (by omega) (by omega) ?_
  refine (show Ev _ 423 ([some (.retAddr 0), some (.ref 0), some (.ref 69), some (.ref 87), some (.int z), a5, a6], [.int (xs z82.toNatClampNeg), .int (xs z80.toNatClampNeg), .ref 69], (m + 0, k + 0), hp75) _ from ?_)
  refine bs_callx (K := kq_X11_crossed_334faa) [.ref 69, .int (xs z80.toNatClampNeg), .int (xs z82.toNatClampNeg)] [] rfl (sf_cX ct_X11_crossed_334faa) Hhp75 rfl rfl rfl (bs_rcv (g := 11) Hhp75 (bs_R.uq Hhp75 (g := 11) rfl) (by decide) rfl) (ls_room (Nat.le_of_ble_eq_true rfl) (by omega) (by omega)) ?_ (sf_S_nil) fun r84 hp83 thp83 Hhp83 fhp83 ahp83 php83 xhp83 => ?_
  · intro q k h
    match q, h with
    | 0, h => cases h; exact bs_jR (bs_R.uq Hhp75 (g := 11) rfl)
    | 1, h => cases h; exact sf_j0
    | 2, h => cases h; exact sf_j0
    | q + 3, h => cases h
  obtain ⟨z85, rfl⟩ := bs_anI ahp83
  have E86 := lw_keep Hhp75 fhp83 rfl rfl rfl rfl rfl E78
  rw [show z80 = z72 from Int32.toInt_inj.mp (by omega)] at xhp83
  rw [show z82 = z74 from Int32.toInt_inj.mp (by omega)] at xhp83
  obtain ⟨ew2, hX2, hC2⟩ := pX Hhp75 (e_crossed hX1 hD _ _) xhp83 hC1
  refine (show Ev _ 426 ([some (.retAddr 0), some (.ref 0), some (.ref 69), some (.ref 87), some (.int z), a5, a6], [.int z85], (m + 0 + 0, k + 0 + 0), hp83) _ from ?_)
  refine Ev.step (j := 427) (s' := ([some (.retAddr 0), some (.ref 0), some (.ref 69), some (.ref 87), some (.int z), a5, a6], [], (m + 0 + 0, k + 0 + 0), hp83)) rfl rfl ?_
  refine Ev.step (j := 1468) (s' := ([some (.retAddr 0), some (.ref 0), some (.ref 69), some (.ref 87), some (.int z), a5, a6], [], (m + 0 + 0, k + 0 + 0), hp83)) rfl rfl ?_
  exact K _ _ _ _ _ _ Hhp83 ⟨E86, _, hD, hC2, hX2⟩ (by omega) (by omega)
set_option maxRecDepth 100000 in
set_option maxHeartbeats 4000000 in
theorem op_man {xs : Nat → Int32} {n : Nat} {z : Int32} {a5 a6 : Option Value} {m k : Nat} {hp : ab_H} {t : Nat → Nat} {Q : ab_O → Prop} (H : sf_h t hp) (hs : lw_eq hp) (hz0 : 0 ≤ z.toInt) (hz1 : z.toInt + 6 ≤ n) (hn : n ≤ 3072) (hm : m + 21 ≤ 709736) (hk : k + 410 ≤ 6966897) (K : lw_K xs n z m k Q) : Ev (LT xs n) 430 ([some (.retAddr 0), some (.ref 0), some (.ref 69), some (.ref 87), some (.int z), a5, a6], [], (m, k), hp) Q := by
  obtain ⟨hs, D, hD, hC, hX⟩ := hs
  refine Ev.step (j := 431) (s' := ([some (.retAddr 0), some (.ref 0), some (.ref 69), some (.ref 87), some (.int z), a5, a6], [.ref 0], (m, k), hp)) rfl rfl ?_
  refine Ev.step (j := 432) (s' := ([some (.retAddr 0), some (.ref 0), some (.ref 69), some (.ref 87), some (.int z), a5, a6], [.retAddr 0, .ref 0], (m, k), hp)) rfl rfl ?_
  refine Ev.step (j := 434) (s' := ([some (.retAddr 0), some (.ref 0), some (.ref 69), some (.ref 87), some (.int z), a5, a6], [.int z, .retAddr 0, .ref 0], (m, k), hp)) rfl rfl ?_
  refine bs_lit (k := 1) rfl rfl fun z87 hz87 => ?_
  refine bs_add rfl (by omega) (by omega) fun z88 hz88 => ?_
  refine ls_sld rfl (by omega) (by omega) ?_
  refine (show Ev _ 437 ([some (.retAddr 0), some (.ref 0), some (.ref 69), some (.ref 87), some (.int z), a5, a6], [.int (xs z88.toNatClampNeg), .ref 0], (m, k), hp) _ from ?_)
  refine Ev.step (j := 438) (s' := ([some (.retAddr 0), some (.ref 0), some (.ref 69), some (.ref 87), some (.int z), a5, a6], [.retAddr 0, .int (xs z88.toNatClampNeg), .ref 0], (m, k), hp)) rfl rfl ?_
  refine Ev.step (j := 440) (s' := ([some (.retAddr 0), some (.ref 0), some (.ref 69), some (.ref 87), some (.int z), a5, a6], [.int z, .retAddr 0, .int (xs z88.toNatClampNeg), .ref 0], (m, k), hp)) rfl rfl ?_
  refine bs_lit (k := 2) rfl rfl fun z89 hz89 => ?_
  refine bs_add rfl (by omega) (by omega) fun z90 hz90 => ?_
  refine ls_sld rfl (by omega) (by omega) ?_
  refine (show Ev _ 443 ([some (.retAddr 0), some (.ref 0), some (.ref 69), some (.ref 87), some (.int z), a5, a6], [.int (xs z90.toNatClampNeg), .int (xs z88.toNatClampNeg), .ref 0], (m, k), hp) _ from ?_)
  refine Ev.step (j := 444) (s' := ([some (.retAddr 0), some (.ref 0), some (.ref 69), some (.ref 87), some (.int z), a5, a6], [.ref 87, .int (xs z90.toNatClampNeg), .int (xs z88.toNatClampNeg), .ref 0], (m, k), hp)) rfl rfl ?_
  refine bs_callSx (K := kq_L_man) [.ref 0, .int (xs z88.toNatClampNeg), .int (xs z90.toNatClampNeg), .ref 87] [] rfl (sf_cX ct_L_man) H rfl rfl rfl (ls_room (Nat.le_of_ble_eq_true rfl) (by omega) (by omega)) ?_ (sf_S_nil) fun r92 hp91 thp91 Hhp91 fhp91 ahp91 php91 xhp91 => ?_
  · intro q k h
    match q, h with
    | 0, h => cases h; exact bs_jR (bs_R.uq H (g := 10) rfl)
    | 1, h => cases h; exact sf_j0
    | 2, h => cases h; exact sf_j0
    | 3, h => cases h; exact bs_jR (bs_R.uq H (g := 148) rfl)
    | q + 4, h => cases h
  obtain ⟨z93, rfl⟩ := bs_anI ahp91
  have E94 := lw_keep H fhp91 rfl rfl rfl rfl rfl hs
  obtain ⟨hC1, kx1⟩ := CRW (by rfl) H Hhp91 fhp91 hC
  have hX1 := kx1 _ hX
  refine (show Ev _ 447 ([some (.retAddr 0), some (.ref 0), some (.ref 69), some (.ref 87), some (.int z), a5, a6], [.int z93], (m + 1, k + 6), hp91) _ from ?_)
  refine Ev.step (j := 449) (s' := ([some (.retAddr 0), some (.ref 0), some (.ref 69), some (.ref 87), some (.int z), (some (.int z93)), a6], [], (m + 1, k + 6), hp91)) rfl rfl ?_
  refine Ev.step (j := 450) (s' := ([some (.retAddr 0), some (.ref 0), some (.ref 69), some (.ref 87), some (.int z), (some (.int z93)), a6], [.ref 69], (m + 1, k + 6), hp91)) rfl rfl ?_
  refine Ev.step (j := 451) (s' := ([some (.retAddr 0), some (.ref 0), some (.ref 69), some (.ref 87), some (.int z), (some (.int z93)), a6], [.retAddr 0, .ref 69], (m + 1, k + 6), hp91)) rfl rfl ?_
  refine Ev.step (j := 453) (s' := ([some (.retAddr 0), some (.ref 0), some (.ref 69), some (.ref 87), some (.int z), (some (.int z93)), a6], [.int z, .retAddr 0, .ref 69], (m + 1, k + 6), hp91)) rfl rfl ?_
  refine bs_lit (k := 1) rfl rfl fun z95 hz95 => ?_
  refine bs_add rfl (by omega) (by omega) fun z96 hz96 => ?_
  refine ls_sld rfl (by omega) (by omega) ?_
  refine (show Ev _ 456 ([some (.retAddr 0), some (.ref 0), some (.ref 69), some (.ref 87), some (.int z), (some (.int z93)), a6], [.int (xs z96.toNatClampNeg), .ref 69], (m + 1, k + 6), hp91) _ from ?_)
  refine Ev.step (j := 457) (s' := ([some (.retAddr 0), some (.ref 0), some (.ref 69), some (.ref 87), some (.int z), (some (.int z93)), a6], [.retAddr 0, .int (xs z96.toNatClampNeg), .ref 69], (m + 1, k + 6), hp91)) rfl rfl ?_
  refine Ev.step (j := 459) (s' := ([some (.retAddr 0), some (.ref 0), some (.ref 69), some (.ref 87), some (.int z), (some (.int z93)), a6], [.int z, .retAddr 0, .int (xs z96.toNatClampNeg), .ref 69], (m + 1, k + 6), hp91)) rfl rfl ?_
  refine bs_lit (k := 2) rfl rfl fun z97 hz97 => ?_
  refine bs_add rfl (by omega) (by omega) fun z98 hz98 => ?_
  refine ls_sld rfl (by omega) (by omega) ?_
  refine (show Ev _ 462 ([some (.retAddr 0), some (.ref 0), some (.ref 69), some (.ref 87), some (.int z), (some (.int z93)), a6], [.int (xs z98.toNatClampNeg), .int (xs z96.toNatClampNeg), .ref 69], (m + 1, k + 6), hp91) _ from ?_)
  refine bs_callx (K := kq_X11_man_h) [.ref 69, .int (xs z96.toNatClampNeg), .int (xs z98.toNatClampNeg)] [] rfl (sf_cX ct_X11_man_h) Hhp91 rfl rfl rfl (bs_rcv (g := 11) Hhp91 (bs_R.uq Hhp91 (g := 11) rfl) (by decide) rfl) (ls_room (Nat.le_of_ble_eq_true rfl) (by omega) (by omega)) ?_ (sf_S_nil) fun r100 hp99 thp99 Hhp99 fhp99 ahp99 php99 xhp99 => ?_
  · intro q k h
    match q, h with
    | 0, h => cases h; exact bs_jR (bs_R.uq Hhp91 (g := 11) rfl)
    | 1, h => cases h; exact sf_j0
    | 2, h => cases h; exact sf_j0
    | q + 3, h => cases h
  obtain ⟨z101, rfl⟩ := bs_anI ahp99
  have E102 := lw_keep Hhp91 fhp99 rfl rfl rfl rfl rfl E94
  rw [show z96 = z88 from Int32.toInt_inj.mp (by omega)] at xhp99
  rw [show z98 = z90 from Int32.toInt_inj.mp (by omega)] at xhp99
  have em := lw_man H Hhp91 hC hX1 fhp99 (by rfl) xhp91 xhp99
  obtain ⟨hX2, kc2⟩ := XRW (by rfl) (by rfl) Hhp91 Hhp99 fhp99 hC1.c hX1
  have hC2 := kc2 _ hC1
  refine (show Ev _ 465 ([some (.retAddr 0), some (.ref 0), some (.ref 69), some (.ref 87), some (.int z), (some (.int z93)), a6], [.int z101], (m + 1 + 0, k + 6 + 0), hp99) _ from ?_)
  refine Ev.step (j := 467) (s' := ([some (.retAddr 0), some (.ref 0), some (.ref 69), some (.ref 87), some (.int z), (some (.int z93)), (some (.int z101))], [], (m + 1 + 0, k + 6 + 0), hp99)) rfl rfl ?_
  refine Ev.step (j := 468) (s' := ([some (.retAddr 0), some (.ref 0), some (.ref 69), some (.ref 87), some (.int z), (some (.int z93)), (some (.int z101))], [.ref 69], (m + 1 + 0, k + 6 + 0), hp99)) rfl rfl ?_
  refine bs_callx (K := kq_X11_thrown_6afe8b) [.ref 69] [] rfl (sf_cX ct_X11_thrown_6afe8b) Hhp99 rfl rfl rfl (bs_rcv (g := 11) Hhp99 (bs_R.uq Hhp99 (g := 11) rfl) (by decide) rfl) (ls_room (Nat.le_of_ble_eq_true rfl) (by omega) (by omega)) ?_ (sf_S_nil) fun r104 hp103 thp103 Hhp103 fhp103 ahp103 php103 xhp103 => ?_
  · intro q k h
    match q, h with
    | 0, h => cases h; exact bs_jR (bs_R.uq Hhp99 (g := 11) rfl)
    | q + 1, h => cases h
  obtain ⟨z105, rfl⟩ := bs_anI ahp103
  have E106 := lw_keep Hhp99 fhp103 rfl rfl rfl rfl rfl E102
  obtain ⟨w3, e3⟩ := lw_thr Hhp99 xhp103
  have hX3 : XR (fl hp103) D := by rw [e3]; exact hX2
  have hC3 : CR (fl hp103) D := by rw [e3]; exact hC2
  refine (show Ev _ 471 ([some (.retAddr 0), some (.ref 0), some (.ref 69), some (.ref 87), some (.int z), (some (.int z93)), (some (.int z101))], [.int z105], (m + 1 + 0 + 0, k + 6 + 0 + 0), hp103) _ from ?_)
  refine Ev.step (j := 473) (s' := ([some (.retAddr 0), some (.ref 0), some (.ref 69), some (.ref 87), some (.int z), (some (.int z93)), (some (.int z101))], [.int z93, .int z105], (m + 1 + 0 + 0, k + 6 + 0 + 0), hp103)) rfl rfl ?_
  rcases em with ⟨b1, b2⟩ | ⟨v, b1, b2, b3, b4⟩
  · have qk : z93 = 1 := Value.int.inj (Option.some.inj b1)
    have qt : z105 = 1 := (Value.int.inj (Option.some.inj w3)).trans b2
    have qz : z105.toInt = z93.toInt := by rw [qk, qt]
    refine bs_eq rfl (fun c => ?_) (fun c => absurd qz c)
    refine Ev.step (j := 480) (s' := ([some (.retAddr 0), some (.ref 0), some (.ref 69), some (.ref 87), some (.int z), (some (.int z93)), (some (.int z101))], [.int z93], (m + 1 + 0 + 0, k + 6 + 0 + 0), hp103)) rfl rfl ?_
    refine bs_ifne rfl (fun c => ?_) (fun c => absurd c (by rw [qk]; decide))
    refine Ev.step (j := 1468) (s' := ([some (.retAddr 0), some (.ref 0), some (.ref 69), some (.ref 87), some (.int z), (some (.int z93)), (some (.int z101))], [], (m + 1 + 0 + 0, k + 6 + 0 + 0), hp103)) rfl rfl ?_
    exact K _ _ _ _ _ _ Hhp103 ⟨E106, D, hD, hC3, hX3⟩ (by omega) (by omega)
  · have qk : z93 = 0 := Value.int.inj (Option.some.inj b1)
    have qt : z105 = 0 := (Value.int.inj (Option.some.inj w3)).trans b2
    have qz : z105.toInt = z93.toInt := by rw [qk, qt]
    have qv : z101 = v := Value.int.inj (Option.some.inj b3)
    refine bs_eq rfl (fun c => ?_) (fun c => absurd qz c)
    refine Ev.step (j := 480) (s' := ([some (.retAddr 0), some (.ref 0), some (.ref 69), some (.ref 87), some (.int z), (some (.int z93)), (some (.int z101))], [.int z93], (m + 1 + 0 + 0, k + 6 + 0 + 0), hp103)) rfl rfl ?_
    refine bs_ifne rfl (fun c => absurd (show z93.toInt = 0 by rw [qk]; rfl) c) (fun c => ?_)
    refine Ev.step (j := 484) (s' := ([some (.retAddr 0), some (.ref 0), some (.ref 69), some (.ref 87), some (.int z), (some (.int z93)), (some (.int z101))], [.ref 87], (m + 1 + 0 + 0, k + 6 + 0 + 0), hp103)) rfl rfl ?_
    refine bs_lit (k := 0) rfl rfl fun z107 hz107 => ?_
    obtain ⟨ho1, fo, ho2, ho3⟩ := lw_out Hhp103
    refine Ev.lald (a := 87) rfl ho1 ho2 (n_in (by omega) (by omega)) ?_
    refine (show Ev _ 486 ([some (.retAddr 0), some (.ref 0), some (.ref 69), some (.ref 87), some (.int z), (some (.int z93)), (some (.int z101))], [.long (fo z107.toNatClampNeg)], (m + 1 + 0 + 0, k + 6 + 0 + 0), hp103) _ from ?_)
    refine Ev.step (j := 488) (s' := ([some (.retAddr 0), some (.ref 0), some (.ref 69), some (.ref 87), some (.int z), (some (.int z93)), (some (.int z101))], [.int z101, .long (fo z107.toNatClampNeg)], (m + 1 + 0 + 0, k + 6 + 0 + 0), hp103)) rfl rfl ?_
    refine Ev.step (j := 489) (s' := ([some (.retAddr 0), some (.ref 0), some (.ref 69), some (.ref 87), some (.int z), (some (.int z93)), (some (.int z101))], [.long z101.toInt64, .long (fo z107.toNatClampNeg)], (m + 1 + 0 + 0, k + 6 + 0 + 0), hp103)) rfl rfl ?_
    refine bs_lcmpv rfl fun z108 hz108 => ?_
    have qo : fo z107.toNatClampNeg = z101.toInt64 := by
      have e0 : z107 = 0 := Int32.toInt_inj.mp hz107
      rw [e0, qv, ← b4, ← e3]
      exact (ho3 0).symm
    refine bs_ifeq rfl (fun c => ?_) (fun c => absurd (hz108.mpr qo) c)
    refine Ev.step (j := 1468) (s' := ([some (.retAddr 0), some (.ref 0), some (.ref 69), some (.ref 87), some (.int z), (some (.int z93)), (some (.int z101))], [], (m + 1 + 0 + 0, k + 6 + 0 + 0), hp103)) rfl rfl ?_
    exact K _ _ _ _ _ _ Hhp103 ⟨E106, D, hD, hC3, hX3⟩ (by omega) (by omega)
set_option maxRecDepth 100000 in
set_option maxHeartbeats 4000000 in
theorem op_apart {xs : Nat → Int32} {n : Nat} {z : Int32} {a5 a6 : Option Value} {m k : Nat} {hp : ab_H} {t : Nat → Nat} {Q : ab_O → Prop} (H : sf_h t hp) (hs : lw_eq hp) (hz0 : 0 ≤ z.toInt) (hz1 : z.toInt + 6 ≤ n) (hn : n ≤ 3072) (hm : m + 21 ≤ 709736) (hk : k + 410 ≤ 6966897) (K : lw_K xs n z m k Q) : Ev (LT xs n) 498 ([some (.retAddr 0), some (.ref 0), some (.ref 69), some (.ref 87), some (.int z), a5, a6], [], (m, k), hp) Q := by
  obtain ⟨hs, D, hD, hC, hX⟩ := hs
  refine Ev.step (j := 499) (s' := ([some (.retAddr 0), some (.ref 0), some (.ref 69), some (.ref 87), some (.int z), a5, a6], [.ref 0], (m, k), hp)) rfl rfl ?_
  refine Ev.step (j := 500) (s' := ([some (.retAddr 0), some (.ref 0), some (.ref 69), some (.ref 87), some (.int z), a5, a6], [.retAddr 0, .ref 0], (m, k), hp)) rfl rfl ?_
  refine Ev.step (j := 502) (s' := ([some (.retAddr 0), some (.ref 0), some (.ref 69), some (.ref 87), some (.int z), a5, a6], [.int z, .retAddr 0, .ref 0], (m, k), hp)) rfl rfl ?_
  refine bs_lit (k := 1) rfl rfl fun z109 hz109 => ?_
  refine bs_add rfl (by omega) (by omega) fun z110 hz110 => ?_
  refine ls_sld rfl (by omega) (by omega) ?_
  refine (show Ev _ 505 ([some (.retAddr 0), some (.ref 0), some (.ref 69), some (.ref 87), some (.int z), a5, a6], [.int (xs z110.toNatClampNeg), .ref 0], (m, k), hp) _ from ?_)
  refine Ev.step (j := 506) (s' := ([some (.retAddr 0), some (.ref 0), some (.ref 69), some (.ref 87), some (.int z), a5, a6], [.retAddr 0, .int (xs z110.toNatClampNeg), .ref 0], (m, k), hp)) rfl rfl ?_
  refine Ev.step (j := 508) (s' := ([some (.retAddr 0), some (.ref 0), some (.ref 69), some (.ref 87), some (.int z), a5, a6], [.int z, .retAddr 0, .int (xs z110.toNatClampNeg), .ref 0], (m, k), hp)) rfl rfl ?_
  refine bs_lit (k := 2) rfl rfl fun z111 hz111 => ?_
  refine bs_add rfl (by omega) (by omega) fun z112 hz112 => ?_
  refine ls_sld rfl (by omega) (by omega) ?_
  refine (show Ev _ 511 ([some (.retAddr 0), some (.ref 0), some (.ref 69), some (.ref 87), some (.int z), a5, a6], [.int (xs z112.toNatClampNeg), .int (xs z110.toNatClampNeg), .ref 0], (m, k), hp) _ from ?_)
  refine bs_callx (K := kq_X10_apart_57b5ea) [.ref 0, .int (xs z110.toNatClampNeg), .int (xs z112.toNatClampNeg)] [] rfl (sf_cX ct_X10_apart_57b5ea) H rfl rfl rfl (bs_rcv (g := 10) H (bs_R.uq H (g := 10) rfl) (by decide) rfl) (ls_room (Nat.le_of_ble_eq_true rfl) (by omega) (by omega)) ?_ (sf_S_nil) fun r114 hp113 thp113 Hhp113 fhp113 ahp113 php113 xhp113 => ?_
  · intro q k h
    match q, h with
    | 0, h => cases h; exact bs_jR (bs_R.uq H (g := 10) rfl)
    | 1, h => cases h; exact sf_j0
    | 2, h => cases h; exact sf_j0
    | q + 3, h => cases h
  obtain ⟨z115, rfl⟩ := bs_anI ahp113
  have E116 := lw_keep H fhp113 rfl rfl rfl rfl rfl hs
  obtain ⟨ew1, hC1, hX1⟩ := pC H (d_apart hC hD _ _) xhp113 hX
  refine (show Ev _ 514 ([some (.retAddr 0), some (.ref 0), some (.ref 69), some (.ref 87), some (.int z), a5, a6], [.int z115], (m + 0, k + 0), hp113) _ from ?_)
  refine Ev.step (j := 515) (s' := ([some (.retAddr 0), some (.ref 0), some (.ref 69), some (.ref 87), some (.int z), a5, a6], [], (m + 0, k + 0), hp113)) rfl rfl ?_
  refine Ev.step (j := 516) (s' := ([some (.retAddr 0), some (.ref 0), some (.ref 69), some (.ref 87), some (.int z), a5, a6], [.ref 69], (m + 0, k + 0), hp113)) rfl rfl ?_
  refine Ev.step (j := 517) (s' := ([some (.retAddr 0), some (.ref 0), some (.ref 69), some (.ref 87), some (.int z), a5, a6], [.retAddr 0, .ref 69], (m + 0, k + 0), hp113)) rfl rfl ?_
  refine Ev.step (j := 519) (s' := ([some (.retAddr 0), some (.ref 0), some (.ref 69), some (.ref 87), some (.int z), a5, a6], [.int z, .retAddr 0, .ref 69], (m + 0, k + 0), hp113)) rfl rfl ?_
  refine bs_lit (k := 1) rfl rfl fun z117 hz117 => ?_
  refine bs_add rfl (by omega) (by omega) fun z118 hz118 => ?_
  refine ls_sld rfl (by omega) (by omega) ?_
  refine (show Ev _ 522 ([some (.retAddr 0), some (.ref 0), some (.ref 69), some (.ref 87), some (.int z), a5, a6], [.int (xs z118.toNatClampNeg), .ref 69], (m + 0, k + 0), hp113) _ from ?_)
  refine Ev.step (j := 523) (s' := ([some (.retAddr 0), some (.ref 0), some (.ref 69), some (.ref 87), some (.int z), a5, a6], [.retAddr 0, .int (xs z118.toNatClampNeg), .ref 69], (m + 0, k + 0), hp113)) rfl rfl ?_
  refine Ev.step (j := 525) (s' := ([some (.retAddr 0), some (.ref 0), some (.ref 69), some (.ref 87), some (.int z), a5, a6], [.int z, .retAddr 0, .int (xs z118.toNatClampNeg), .ref 69], (m + 0, k + 0), hp113)) rfl rfl ?_
  refine bs_lit (k := 2) rfl rfl fun z119 hz119 => ?_
  refine bs_add rfl (by omega) (by omega) fun z120 hz120 => ?_
  refine ls_sld rfl (by omega) (by omega) ?_
  refine (show Ev _ 528 ([some (.retAddr 0), some (.ref 0), some (.ref 69), some (.ref 87), some (.int z), a5, a6], [.int (xs z120.toNatClampNeg), .int (xs z118.toNatClampNeg), .ref 69], (m + 0, k + 0), hp113) _ from ?_)
  refine bs_callx (K := kq_X11_apart_334faa) [.ref 69, .int (xs z118.toNatClampNeg), .int (xs z120.toNatClampNeg)] [] rfl (sf_cX ct_X11_apart_334faa) Hhp113 rfl rfl rfl (bs_rcv (g := 11) Hhp113 (bs_R.uq Hhp113 (g := 11) rfl) (by decide) rfl) (ls_room (Nat.le_of_ble_eq_true rfl) (by omega) (by omega)) ?_ (sf_S_nil) fun r122 hp121 thp121 Hhp121 fhp121 ahp121 php121 xhp121 => ?_
  · intro q k h
    match q, h with
    | 0, h => cases h; exact bs_jR (bs_R.uq Hhp113 (g := 11) rfl)
    | 1, h => cases h; exact sf_j0
    | 2, h => cases h; exact sf_j0
    | q + 3, h => cases h
  obtain ⟨z123, rfl⟩ := bs_anI ahp121
  have E124 := lw_keep Hhp113 fhp121 rfl rfl rfl rfl rfl E116
  rw [show z118 = z110 from Int32.toInt_inj.mp (by omega)] at xhp121
  rw [show z120 = z112 from Int32.toInt_inj.mp (by omega)] at xhp121
  obtain ⟨ew2, hX2, hC2⟩ := pX Hhp113 (e_apart hX1 hD _ _) xhp121 hC1
  refine (show Ev _ 531 ([some (.retAddr 0), some (.ref 0), some (.ref 69), some (.ref 87), some (.int z), a5, a6], [.int z123], (m + 0 + 0, k + 0 + 0), hp121) _ from ?_)
  refine Ev.step (j := 532) (s' := ([some (.retAddr 0), some (.ref 0), some (.ref 69), some (.ref 87), some (.int z), a5, a6], [], (m + 0 + 0, k + 0 + 0), hp121)) rfl rfl ?_
  refine Ev.step (j := 1468) (s' := ([some (.retAddr 0), some (.ref 0), some (.ref 69), some (.ref 87), some (.int z), a5, a6], [], (m + 0 + 0, k + 0 + 0), hp121)) rfl rfl ?_
  exact K _ _ _ _ _ _ Hhp121 ⟨E124, _, hD, hC2, hX2⟩ (by omega) (by omega)
set_option maxRecDepth 100000 in
set_option maxHeartbeats 4000000 in
theorem op_now {xs : Nat → Int32} {n : Nat} {z : Int32} {a5 a6 : Option Value} {m k : Nat} {hp : ab_H} {t : Nat → Nat} {Q : ab_O → Prop} (H : sf_h t hp) (hs : lw_eq hp) (hz0 : 0 ≤ z.toInt) (hz1 : z.toInt + 6 ≤ n) (hn : n ≤ 3072) (hm : m + 21 ≤ 709736) (hk : k + 410 ≤ 6966897) (K : lw_K xs n z m k Q) : Ev (LT xs n) 535 ([some (.retAddr 0), some (.ref 0), some (.ref 69), some (.ref 87), some (.int z), a5, a6], [], (m, k), hp) Q := by
  obtain ⟨hs, D, hD, hC, hX⟩ := hs
  refine Ev.step (j := 536) (s' := ([some (.retAddr 0), some (.ref 0), some (.ref 69), some (.ref 87), some (.int z), a5, a6], [.ref 0], (m, k), hp)) rfl rfl ?_
  refine Ev.step (j := 537) (s' := ([some (.retAddr 0), some (.ref 0), some (.ref 69), some (.ref 87), some (.int z), a5, a6], [.retAddr 0, .ref 0], (m, k), hp)) rfl rfl ?_
  refine Ev.step (j := 539) (s' := ([some (.retAddr 0), some (.ref 0), some (.ref 69), some (.ref 87), some (.int z), a5, a6], [.int z, .retAddr 0, .ref 0], (m, k), hp)) rfl rfl ?_
  refine bs_lit (k := 1) rfl rfl fun z125 hz125 => ?_
  refine bs_add rfl (by omega) (by omega) fun z126 hz126 => ?_
  refine ls_sld rfl (by omega) (by omega) ?_
  refine (show Ev _ 542 ([some (.retAddr 0), some (.ref 0), some (.ref 69), some (.ref 87), some (.int z), a5, a6], [.int (xs z126.toNatClampNeg), .ref 0], (m, k), hp) _ from ?_)
  refine bs_callx (K := kq_X10_now_0df2a5) [.ref 0, .int (xs z126.toNatClampNeg)] [] rfl (sf_cX ct_X10_now_0df2a5) H rfl rfl rfl (bs_rcv (g := 10) H (bs_R.uq H (g := 10) rfl) (by decide) rfl) (ls_room (Nat.le_of_ble_eq_true rfl) (by omega) (by omega)) ?_ (sf_S_nil) fun r128 hp127 thp127 Hhp127 fhp127 ahp127 php127 xhp127 => ?_
  · intro q k h
    match q, h with
    | 0, h => cases h; exact bs_jR (bs_R.uq H (g := 10) rfl)
    | 1, h => cases h; exact sf_j0
    | q + 2, h => cases h
  obtain ⟨z129, rfl⟩ := bs_anI ahp127
  have E130 := lw_keep H fhp127 rfl rfl rfl rfl rfl hs
  obtain ⟨ew1, hC1, hX1⟩ := pC H (d_now hC hD _) xhp127 hX
  refine (show Ev _ 545 ([some (.retAddr 0), some (.ref 0), some (.ref 69), some (.ref 87), some (.int z), a5, a6], [.int z129], (m + 0, k + 0), hp127) _ from ?_)
  refine Ev.step (j := 546) (s' := ([some (.retAddr 0), some (.ref 0), some (.ref 69), some (.ref 87), some (.int z), a5, a6], [], (m + 0, k + 0), hp127)) rfl rfl ?_
  refine Ev.step (j := 547) (s' := ([some (.retAddr 0), some (.ref 0), some (.ref 69), some (.ref 87), some (.int z), a5, a6], [.ref 69], (m + 0, k + 0), hp127)) rfl rfl ?_
  refine Ev.step (j := 548) (s' := ([some (.retAddr 0), some (.ref 0), some (.ref 69), some (.ref 87), some (.int z), a5, a6], [.retAddr 0, .ref 69], (m + 0, k + 0), hp127)) rfl rfl ?_
  refine Ev.step (j := 550) (s' := ([some (.retAddr 0), some (.ref 0), some (.ref 69), some (.ref 87), some (.int z), a5, a6], [.int z, .retAddr 0, .ref 69], (m + 0, k + 0), hp127)) rfl rfl ?_
  refine bs_lit (k := 1) rfl rfl fun z131 hz131 => ?_
  refine bs_add rfl (by omega) (by omega) fun z132 hz132 => ?_
  refine ls_sld rfl (by omega) (by omega) ?_
  refine (show Ev _ 553 ([some (.retAddr 0), some (.ref 0), some (.ref 69), some (.ref 87), some (.int z), a5, a6], [.int (xs z132.toNatClampNeg), .ref 69], (m + 0, k + 0), hp127) _ from ?_)
  refine bs_callx (K := kq_X11_now_3d45d6) [.ref 69, .int (xs z132.toNatClampNeg)] [] rfl (sf_cX ct_X11_now_3d45d6) Hhp127 rfl rfl rfl (bs_rcv (g := 11) Hhp127 (bs_R.uq Hhp127 (g := 11) rfl) (by decide) rfl) (ls_room (Nat.le_of_ble_eq_true rfl) (by omega) (by omega)) ?_ (sf_S_nil) fun r134 hp133 thp133 Hhp133 fhp133 ahp133 php133 xhp133 => ?_
  · intro q k h
    match q, h with
    | 0, h => cases h; exact bs_jR (bs_R.uq Hhp127 (g := 11) rfl)
    | 1, h => cases h; exact sf_j0
    | q + 2, h => cases h
  obtain ⟨z135, rfl⟩ := bs_anI ahp133
  have E136 := lw_keep Hhp127 fhp133 rfl rfl rfl rfl rfl E130
  rw [show z132 = z126 from Int32.toInt_inj.mp (by omega)] at xhp133
  obtain ⟨ew2, hX2, hC2⟩ := pX Hhp127 (e_now hX1 hD _) xhp133 hC1
  refine (show Ev _ 556 ([some (.retAddr 0), some (.ref 0), some (.ref 69), some (.ref 87), some (.int z), a5, a6], [.int z135], (m + 0 + 0, k + 0 + 0), hp133) _ from ?_)
  refine Ev.step (j := 557) (s' := ([some (.retAddr 0), some (.ref 0), some (.ref 69), some (.ref 87), some (.int z), a5, a6], [], (m + 0 + 0, k + 0 + 0), hp133)) rfl rfl ?_
  refine Ev.step (j := 1468) (s' := ([some (.retAddr 0), some (.ref 0), some (.ref 69), some (.ref 87), some (.int z), a5, a6], [], (m + 0 + 0, k + 0 + 0), hp133)) rfl rfl ?_
  exact K _ _ _ _ _ _ Hhp133 ⟨E136, _, hD, hC2, hX2⟩ (by omega) (by omega)
set_option maxRecDepth 100000 in
set_option maxHeartbeats 4000000 in
theorem op_hoard {xs : Nat → Int32} {n : Nat} {z : Int32} {a5 a6 : Option Value} {m k : Nat} {hp : ab_H} {t : Nat → Nat} {Q : ab_O → Prop} (H : sf_h t hp) (hs : lw_eq hp) (hz0 : 0 ≤ z.toInt) (hz1 : z.toInt + 6 ≤ n) (hn : n ≤ 3072) (hm : m + 21 ≤ 709736) (hk : k + 410 ≤ 6966897) (K : lw_K xs n z m k Q) : Ev (LT xs n) 560 ([some (.retAddr 0), some (.ref 0), some (.ref 69), some (.ref 87), some (.int z), a5, a6], [], (m, k), hp) Q := by
  obtain ⟨hs, D, hD, hC, hX⟩ := hs
  refine Ev.step (j := 561) (s' := ([some (.retAddr 0), some (.ref 0), some (.ref 69), some (.ref 87), some (.int z), a5, a6], [.ref 0], (m, k), hp)) rfl rfl ?_
  refine Ev.step (j := 562) (s' := ([some (.retAddr 0), some (.ref 0), some (.ref 69), some (.ref 87), some (.int z), a5, a6], [.retAddr 0, .ref 0], (m, k), hp)) rfl rfl ?_
  refine Ev.step (j := 564) (s' := ([some (.retAddr 0), some (.ref 0), some (.ref 69), some (.ref 87), some (.int z), a5, a6], [.int z, .retAddr 0, .ref 0], (m, k), hp)) rfl rfl ?_
  refine bs_lit (k := 1) rfl rfl fun z137 hz137 => ?_
  refine bs_add rfl (by omega) (by omega) fun z138 hz138 => ?_
  refine ls_sld rfl (by omega) (by omega) ?_
  refine (show Ev _ 567 ([some (.retAddr 0), some (.ref 0), some (.ref 69), some (.ref 87), some (.int z), a5, a6], [.int (xs z138.toNatClampNeg), .ref 0], (m, k), hp) _ from ?_)
  refine Ev.step (j := 568) (s' := ([some (.retAddr 0), some (.ref 0), some (.ref 69), some (.ref 87), some (.int z), a5, a6], [.retAddr 0, .int (xs z138.toNatClampNeg), .ref 0], (m, k), hp)) rfl rfl ?_
  refine Ev.step (j := 570) (s' := ([some (.retAddr 0), some (.ref 0), some (.ref 69), some (.ref 87), some (.int z), a5, a6], [.int z, .retAddr 0, .int (xs z138.toNatClampNeg), .ref 0], (m, k), hp)) rfl rfl ?_
  refine bs_lit (k := 2) rfl rfl fun z139 hz139 => ?_
  refine bs_add rfl (by omega) (by omega) fun z140 hz140 => ?_
  refine ls_sld rfl (by omega) (by omega) ?_
  refine (show Ev _ 573 ([some (.retAddr 0), some (.ref 0), some (.ref 69), some (.ref 87), some (.int z), a5, a6], [.int (xs z140.toNatClampNeg), .int (xs z138.toNatClampNeg), .ref 0], (m, k), hp) _ from ?_)
  refine Ev.step (j := 574) (s' := ([some (.retAddr 0), some (.ref 0), some (.ref 69), some (.ref 87), some (.int z), a5, a6], [.retAddr 0, .int (xs z140.toNatClampNeg), .int (xs z138.toNatClampNeg), .ref 0], (m, k), hp)) rfl rfl ?_
  refine Ev.step (j := 576) (s' := ([some (.retAddr 0), some (.ref 0), some (.ref 69), some (.ref 87), some (.int z), a5, a6], [.int z, .retAddr 0, .int (xs z140.toNatClampNeg), .int (xs z138.toNatClampNeg), .ref 0], (m, k), hp)) rfl rfl ?_
  refine bs_lit (k := 3) rfl rfl fun z141 hz141 => ?_
  refine bs_add rfl (by omega) (by omega) fun z142 hz142 => ?_
  refine ls_sld rfl (by omega) (by omega) ?_
  refine (show Ev _ 579 ([some (.retAddr 0), some (.ref 0), some (.ref 69), some (.ref 87), some (.int z), a5, a6], [.int (xs z142.toNatClampNeg), .int (xs z140.toNatClampNeg), .int (xs z138.toNatClampNeg), .ref 0], (m, k), hp) _ from ?_)
  refine bs_callx (K := kq_X10_hoard_7e6f69) [.ref 0, .int (xs z138.toNatClampNeg), .int (xs z140.toNatClampNeg), .int (xs z142.toNatClampNeg)] [] rfl (sf_cX ct_X10_hoard_7e6f69) H rfl rfl rfl (bs_rcv (g := 10) H (bs_R.uq H (g := 10) rfl) (by decide) rfl) (ls_room (Nat.le_of_ble_eq_true rfl) (by omega) (by omega)) ?_ (sf_S_nil) fun r144 hp143 thp143 Hhp143 fhp143 ahp143 php143 xhp143 => ?_
  · intro q k h
    match q, h with
    | 0, h => cases h; exact bs_jR (bs_R.uq H (g := 10) rfl)
    | 1, h => cases h; exact sf_j0
    | 2, h => cases h; exact sf_j0
    | 3, h => cases h; exact sf_j0
    | q + 4, h => cases h
  obtain ⟨z145, rfl⟩ := bs_anI ahp143
  have E146 := lw_keep H fhp143 rfl rfl rfl rfl rfl hs
  obtain ⟨ew1, hC1, hX1⟩ := pC H (d_hoard hC hD _ _ _) xhp143 hX
  refine (show Ev _ 582 ([some (.retAddr 0), some (.ref 0), some (.ref 69), some (.ref 87), some (.int z), a5, a6], [.int z145], (m + 8, k + 138), hp143) _ from ?_)
  refine Ev.step (j := 583) (s' := ([some (.retAddr 0), some (.ref 0), some (.ref 69), some (.ref 87), some (.int z), a5, a6], [], (m + 8, k + 138), hp143)) rfl rfl ?_
  refine Ev.step (j := 584) (s' := ([some (.retAddr 0), some (.ref 0), some (.ref 69), some (.ref 87), some (.int z), a5, a6], [.ref 69], (m + 8, k + 138), hp143)) rfl rfl ?_
  refine Ev.step (j := 585) (s' := ([some (.retAddr 0), some (.ref 0), some (.ref 69), some (.ref 87), some (.int z), a5, a6], [.retAddr 0, .ref 69], (m + 8, k + 138), hp143)) rfl rfl ?_
  refine Ev.step (j := 587) (s' := ([some (.retAddr 0), some (.ref 0), some (.ref 69), some (.ref 87), some (.int z), a5, a6], [.int z, .retAddr 0, .ref 69], (m + 8, k + 138), hp143)) rfl rfl ?_
  refine bs_lit (k := 1) rfl rfl fun z147 hz147 => ?_
  refine bs_add rfl (by omega) (by omega) fun z148 hz148 => ?_
  refine ls_sld rfl (by omega) (by omega) ?_
  refine (show Ev _ 590 ([some (.retAddr 0), some (.ref 0), some (.ref 69), some (.ref 87), some (.int z), a5, a6], [.int (xs z148.toNatClampNeg), .ref 69], (m + 8, k + 138), hp143) _ from ?_)
  refine Ev.step (j := 591) (s' := ([some (.retAddr 0), some (.ref 0), some (.ref 69), some (.ref 87), some (.int z), a5, a6], [.retAddr 0, .int (xs z148.toNatClampNeg), .ref 69], (m + 8, k + 138), hp143)) rfl rfl ?_
  refine Ev.step (j := 593) (s' := ([some (.retAddr 0), some (.ref 0), some (.ref 69), some (.ref 87), some (.int z), a5, a6], [.int z, .retAddr 0, .int (xs z148.toNatClampNeg), .ref 69], (m + 8, k + 138), hp143)) rfl rfl ?_
  refine bs_lit (k := 2) rfl rfl fun z149 hz149 => ?_
  refine bs_add rfl (by omega) (by omega) fun z150 hz150 => ?_
  refine ls_sld rfl (by omega) (by omega) ?_
  refine (show Ev _ 596 ([some (.retAddr 0), some (.ref 0), some (.ref 69), some (.ref 87), some (.int z), a5, a6], [.int (xs z150.toNatClampNeg), .int (xs z148.toNatClampNeg), .ref 69], (m + 8, k + 138), hp143) _ from ?_)
  refine Ev.step (j := 597) (s' := ([some (.retAddr 0), some (.ref 0), some (.ref 69), some (.ref 87), some (.int z), a5, a6], [.retAddr 0, .int (xs z150.toNatClampNeg), .int (xs z148.toNatClampNeg), .ref 69], (m + 8, k + 138), hp143)) rfl rfl ?_
  refine Ev.step (j := 599) (s' := ([some (.retAddr 0), some (.ref 0), some (.ref 69), some (.ref 87), some (.int z), a5, a6], [.int z, .retAddr 0, .int (xs z150.toNatClampNeg), .int (xs z148.toNatClampNeg), .ref 69], (m + 8, k + 138), hp143)) rfl rfl ?_
  refine bs_lit (k := 3) rfl rfl fun z151 hz151 => ?_
  refine bs_add rfl (by omega) (by omega) fun z152 hz152 => ?_
  refine ls_sld rfl (by omega) (by omega) ?_
  refine (show Ev _ 602 ([some (.retAddr 0), some (.ref 0), some (.ref 69), some (.ref 87), some (.int z), a5, a6], [.int (xs z152.toNatClampNeg), .int (xs z150.toNatClampNeg), .int (xs z148.toNatClampNeg), .ref 69], (m + 8, k + 138), hp143) _ from ?_)
  refine bs_callx (K := kq_X11_hoard_h) [.ref 69, .int (xs z148.toNatClampNeg), .int (xs z150.toNatClampNeg), .int (xs z152.toNatClampNeg)] [] rfl (sf_cX ct_X11_hoard_h) Hhp143 rfl rfl rfl (bs_rcv (g := 11) Hhp143 (bs_R.uq Hhp143 (g := 11) rfl) (by decide) rfl) (ls_room (Nat.le_of_ble_eq_true rfl) (by omega) (by omega)) ?_ (sf_S_nil) fun r154 hp153 thp153 Hhp153 fhp153 ahp153 php153 xhp153 => ?_
  · intro q k h
    match q, h with
    | 0, h => cases h; exact bs_jR (bs_R.uq Hhp143 (g := 11) rfl)
    | 1, h => cases h; exact sf_j0
    | 2, h => cases h; exact sf_j0
    | 3, h => cases h; exact sf_j0
    | q + 4, h => cases h
  obtain ⟨z155, rfl⟩ := bs_anI ahp153
  have E156 := lw_keep Hhp143 fhp153 rfl rfl rfl rfl rfl E146
  rw [show z148 = z138 from Int32.toInt_inj.mp (by omega)] at xhp153
  rw [show z150 = z140 from Int32.toInt_inj.mp (by omega)] at xhp153
  rw [show z152 = z142 from Int32.toInt_inj.mp (by omega)] at xhp153
  obtain ⟨ew2, hX2, hC2⟩ := pX Hhp143 (e_hoard hX1 hD _ _ _) xhp153 hC1
  refine (show Ev _ 605 ([some (.retAddr 0), some (.ref 0), some (.ref 69), some (.ref 87), some (.int z), a5, a6], [.int z155], (m + 8 + 0, k + 138 + 0), hp153) _ from ?_)
  refine Ev.step (j := 606) (s' := ([some (.retAddr 0), some (.ref 0), some (.ref 69), some (.ref 87), some (.int z), a5, a6], [], (m + 8 + 0, k + 138 + 0), hp153)) rfl rfl ?_
  refine Ev.step (j := 1468) (s' := ([some (.retAddr 0), some (.ref 0), some (.ref 69), some (.ref 87), some (.int z), a5, a6], [], (m + 8 + 0, k + 138 + 0), hp153)) rfl rfl ?_
  exact K _ _ _ _ _ _ Hhp153 ⟨E156, _, (hD.k (INV_act hD.2.1 hX.T.gb (by decide))), hC2, hX2⟩ (by omega) (by omega)
set_option maxRecDepth 100000 in
set_option maxHeartbeats 4000000 in
theorem op_bare {xs : Nat → Int32} {n : Nat} {z : Int32} {a5 a6 : Option Value} {m k : Nat} {hp : ab_H} {t : Nat → Nat} {Q : ab_O → Prop} (H : sf_h t hp) (hs : lw_eq hp) (hz0 : 0 ≤ z.toInt) (hz1 : z.toInt + 6 ≤ n) (hn : n ≤ 3072) (hm : m + 21 ≤ 709736) (hk : k + 410 ≤ 6966897) (K : lw_K xs n z m k Q) : Ev (LT xs n) 609 ([some (.retAddr 0), some (.ref 0), some (.ref 69), some (.ref 87), some (.int z), a5, a6], [], (m, k), hp) Q := by
  obtain ⟨hs, D, hD, hC, hX⟩ := hs
  refine Ev.step (j := 610) (s' := ([some (.retAddr 0), some (.ref 0), some (.ref 69), some (.ref 87), some (.int z), a5, a6], [.ref 0], (m, k), hp)) rfl rfl ?_
  refine Ev.step (j := 611) (s' := ([some (.retAddr 0), some (.ref 0), some (.ref 69), some (.ref 87), some (.int z), a5, a6], [.retAddr 0, .ref 0], (m, k), hp)) rfl rfl ?_
  refine Ev.step (j := 613) (s' := ([some (.retAddr 0), some (.ref 0), some (.ref 69), some (.ref 87), some (.int z), a5, a6], [.int z, .retAddr 0, .ref 0], (m, k), hp)) rfl rfl ?_
  refine bs_lit (k := 1) rfl rfl fun z157 hz157 => ?_
  refine bs_add rfl (by omega) (by omega) fun z158 hz158 => ?_
  refine ls_sld rfl (by omega) (by omega) ?_
  refine (show Ev _ 616 ([some (.retAddr 0), some (.ref 0), some (.ref 69), some (.ref 87), some (.int z), a5, a6], [.int (xs z158.toNatClampNeg), .ref 0], (m, k), hp) _ from ?_)
  refine Ev.step (j := 617) (s' := ([some (.retAddr 0), some (.ref 0), some (.ref 69), some (.ref 87), some (.int z), a5, a6], [.retAddr 0, .int (xs z158.toNatClampNeg), .ref 0], (m, k), hp)) rfl rfl ?_
  refine Ev.step (j := 619) (s' := ([some (.retAddr 0), some (.ref 0), some (.ref 69), some (.ref 87), some (.int z), a5, a6], [.int z, .retAddr 0, .int (xs z158.toNatClampNeg), .ref 0], (m, k), hp)) rfl rfl ?_
  refine bs_lit (k := 2) rfl rfl fun z159 hz159 => ?_
  refine bs_add rfl (by omega) (by omega) fun z160 hz160 => ?_
  refine ls_sld rfl (by omega) (by omega) ?_
  refine (show Ev _ 622 ([some (.retAddr 0), some (.ref 0), some (.ref 69), some (.ref 87), some (.int z), a5, a6], [.int (xs z160.toNatClampNeg), .int (xs z158.toNatClampNeg), .ref 0], (m, k), hp) _ from ?_)
  refine Ev.step (j := 623) (s' := ([some (.retAddr 0), some (.ref 0), some (.ref 69), some (.ref 87), some (.int z), a5, a6], [.retAddr 0, .int (xs z160.toNatClampNeg), .int (xs z158.toNatClampNeg), .ref 0], (m, k), hp)) rfl rfl ?_
  refine Ev.step (j := 625) (s' := ([some (.retAddr 0), some (.ref 0), some (.ref 69), some (.ref 87), some (.int z), a5, a6], [.int z, .retAddr 0, .int (xs z160.toNatClampNeg), .int (xs z158.toNatClampNeg), .ref 0], (m, k), hp)) rfl rfl ?_
  refine bs_lit (k := 3) rfl rfl fun z161 hz161 => ?_
  refine bs_add rfl (by omega) (by omega) fun z162 hz162 => ?_
  refine ls_sld rfl (by omega) (by omega) ?_
  refine (show Ev _ 628 ([some (.retAddr 0), some (.ref 0), some (.ref 69), some (.ref 87), some (.int z), a5, a6], [.int (xs z162.toNatClampNeg), .int (xs z160.toNatClampNeg), .int (xs z158.toNatClampNeg), .ref 0], (m, k), hp) _ from ?_)
  refine bs_callx (K := kq_X10_bare_7e6f69) [.ref 0, .int (xs z158.toNatClampNeg), .int (xs z160.toNatClampNeg), .int (xs z162.toNatClampNeg)] [] rfl (sf_cX ct_X10_bare_7e6f69) H rfl rfl rfl (bs_rcv (g := 10) H (bs_R.uq H (g := 10) rfl) (by decide) rfl) (ls_room (Nat.le_of_ble_eq_true rfl) (by omega) (by omega)) ?_ (sf_S_nil) fun r164 hp163 thp163 Hhp163 fhp163 ahp163 php163 xhp163 => ?_
  · intro q k h
    match q, h with
    | 0, h => cases h; exact bs_jR (bs_R.uq H (g := 10) rfl)
    | 1, h => cases h; exact sf_j0
    | 2, h => cases h; exact sf_j0
    | 3, h => cases h; exact sf_j0
    | q + 4, h => cases h
  obtain ⟨z165, rfl⟩ := bs_anI ahp163
  have E166 := lw_keep H fhp163 rfl rfl rfl rfl rfl hs
  obtain ⟨ew1, hC1, hX1⟩ := pC H (d_bare hC hD _ _ _) xhp163 hX
  refine (show Ev _ 631 ([some (.retAddr 0), some (.ref 0), some (.ref 69), some (.ref 87), some (.int z), a5, a6], [.int z165], (m + 8, k + 138), hp163) _ from ?_)
  refine Ev.step (j := 632) (s' := ([some (.retAddr 0), some (.ref 0), some (.ref 69), some (.ref 87), some (.int z), a5, a6], [], (m + 8, k + 138), hp163)) rfl rfl ?_
  refine Ev.step (j := 633) (s' := ([some (.retAddr 0), some (.ref 0), some (.ref 69), some (.ref 87), some (.int z), a5, a6], [.ref 69], (m + 8, k + 138), hp163)) rfl rfl ?_
  refine Ev.step (j := 634) (s' := ([some (.retAddr 0), some (.ref 0), some (.ref 69), some (.ref 87), some (.int z), a5, a6], [.retAddr 0, .ref 69], (m + 8, k + 138), hp163)) rfl rfl ?_
  refine Ev.step (j := 636) (s' := ([some (.retAddr 0), some (.ref 0), some (.ref 69), some (.ref 87), some (.int z), a5, a6], [.int z, .retAddr 0, .ref 69], (m + 8, k + 138), hp163)) rfl rfl ?_
  refine bs_lit (k := 1) rfl rfl fun z167 hz167 => ?_
  refine bs_add rfl (by omega) (by omega) fun z168 hz168 => ?_
  refine ls_sld rfl (by omega) (by omega) ?_
  refine (show Ev _ 639 ([some (.retAddr 0), some (.ref 0), some (.ref 69), some (.ref 87), some (.int z), a5, a6], [.int (xs z168.toNatClampNeg), .ref 69], (m + 8, k + 138), hp163) _ from ?_)
  refine Ev.step (j := 640) (s' := ([some (.retAddr 0), some (.ref 0), some (.ref 69), some (.ref 87), some (.int z), a5, a6], [.retAddr 0, .int (xs z168.toNatClampNeg), .ref 69], (m + 8, k + 138), hp163)) rfl rfl ?_
  refine Ev.step (j := 642) (s' := ([some (.retAddr 0), some (.ref 0), some (.ref 69), some (.ref 87), some (.int z), a5, a6], [.int z, .retAddr 0, .int (xs z168.toNatClampNeg), .ref 69], (m + 8, k + 138), hp163)) rfl rfl ?_
  refine bs_lit (k := 2) rfl rfl fun z169 hz169 => ?_
  refine bs_add rfl (by omega) (by omega) fun z170 hz170 => ?_
  refine ls_sld rfl (by omega) (by omega) ?_
  refine (show Ev _ 645 ([some (.retAddr 0), some (.ref 0), some (.ref 69), some (.ref 87), some (.int z), a5, a6], [.int (xs z170.toNatClampNeg), .int (xs z168.toNatClampNeg), .ref 69], (m + 8, k + 138), hp163) _ from ?_)
  refine Ev.step (j := 646) (s' := ([some (.retAddr 0), some (.ref 0), some (.ref 69), some (.ref 87), some (.int z), a5, a6], [.retAddr 0, .int (xs z170.toNatClampNeg), .int (xs z168.toNatClampNeg), .ref 69], (m + 8, k + 138), hp163)) rfl rfl ?_
  refine Ev.step (j := 648) (s' := ([some (.retAddr 0), some (.ref 0), some (.ref 69), some (.ref 87), some (.int z), a5, a6], [.int z, .retAddr 0, .int (xs z170.toNatClampNeg), .int (xs z168.toNatClampNeg), .ref 69], (m + 8, k + 138), hp163)) rfl rfl ?_
  refine bs_lit (k := 3) rfl rfl fun z171 hz171 => ?_
  refine bs_add rfl (by omega) (by omega) fun z172 hz172 => ?_
  refine ls_sld rfl (by omega) (by omega) ?_
  refine (show Ev _ 651 ([some (.retAddr 0), some (.ref 0), some (.ref 69), some (.ref 87), some (.int z), a5, a6], [.int (xs z172.toNatClampNeg), .int (xs z170.toNatClampNeg), .int (xs z168.toNatClampNeg), .ref 69], (m + 8, k + 138), hp163) _ from ?_)
  refine bs_callx (K := kq_X11_bare_h) [.ref 69, .int (xs z168.toNatClampNeg), .int (xs z170.toNatClampNeg), .int (xs z172.toNatClampNeg)] [] rfl (sf_cX ct_X11_bare_h) Hhp163 rfl rfl rfl (bs_rcv (g := 11) Hhp163 (bs_R.uq Hhp163 (g := 11) rfl) (by decide) rfl) (ls_room (Nat.le_of_ble_eq_true rfl) (by omega) (by omega)) ?_ (sf_S_nil) fun r174 hp173 thp173 Hhp173 fhp173 ahp173 php173 xhp173 => ?_
  · intro q k h
    match q, h with
    | 0, h => cases h; exact bs_jR (bs_R.uq Hhp163 (g := 11) rfl)
    | 1, h => cases h; exact sf_j0
    | 2, h => cases h; exact sf_j0
    | 3, h => cases h; exact sf_j0
    | q + 4, h => cases h
  obtain ⟨z175, rfl⟩ := bs_anI ahp173
  have E176 := lw_keep Hhp163 fhp173 rfl rfl rfl rfl rfl E166
  rw [show z168 = z158 from Int32.toInt_inj.mp (by omega)] at xhp173
  rw [show z170 = z160 from Int32.toInt_inj.mp (by omega)] at xhp173
  rw [show z172 = z162 from Int32.toInt_inj.mp (by omega)] at xhp173
  obtain ⟨ew2, hX2, hC2⟩ := pX Hhp163 (e_bare hX1 hD _ _ _) xhp173 hC1
  refine (show Ev _ 654 ([some (.retAddr 0), some (.ref 0), some (.ref 69), some (.ref 87), some (.int z), a5, a6], [.int z175], (m + 8 + 0, k + 138 + 0), hp173) _ from ?_)
  refine Ev.step (j := 655) (s' := ([some (.retAddr 0), some (.ref 0), some (.ref 69), some (.ref 87), some (.int z), a5, a6], [], (m + 8 + 0, k + 138 + 0), hp173)) rfl rfl ?_
  refine Ev.step (j := 1468) (s' := ([some (.retAddr 0), some (.ref 0), some (.ref 69), some (.ref 87), some (.int z), a5, a6], [], (m + 8 + 0, k + 138 + 0), hp173)) rfl rfl ?_
  exact K _ _ _ _ _ _ Hhp173 ⟨E176, _, (hD.k (INV_act hD.2.1 hX.T.gb (by decide))), hC2, hX2⟩ (by omega) (by omega)
set_option maxRecDepth 100000 in
set_option maxHeartbeats 4000000 in
theorem op_waste {xs : Nat → Int32} {n : Nat} {z : Int32} {a5 a6 : Option Value} {m k : Nat} {hp : ab_H} {t : Nat → Nat} {Q : ab_O → Prop} (H : sf_h t hp) (hs : lw_eq hp) (hz0 : 0 ≤ z.toInt) (hz1 : z.toInt + 6 ≤ n) (hn : n ≤ 3072) (hm : m + 21 ≤ 709736) (hk : k + 410 ≤ 6966897) (K : lw_K xs n z m k Q) : Ev (LT xs n) 658 ([some (.retAddr 0), some (.ref 0), some (.ref 69), some (.ref 87), some (.int z), a5, a6], [], (m, k), hp) Q := by
  obtain ⟨hs, D, hD, hC, hX⟩ := hs
  refine Ev.step (j := 659) (s' := ([some (.retAddr 0), some (.ref 0), some (.ref 69), some (.ref 87), some (.int z), a5, a6], [.ref 0], (m, k), hp)) rfl rfl ?_
  refine Ev.step (j := 660) (s' := ([some (.retAddr 0), some (.ref 0), some (.ref 69), some (.ref 87), some (.int z), a5, a6], [.retAddr 0, .ref 0], (m, k), hp)) rfl rfl ?_
  refine Ev.step (j := 662) (s' := ([some (.retAddr 0), some (.ref 0), some (.ref 69), some (.ref 87), some (.int z), a5, a6], [.int z, .retAddr 0, .ref 0], (m, k), hp)) rfl rfl ?_
  refine bs_lit (k := 1) rfl rfl fun z177 hz177 => ?_
  refine bs_add rfl (by omega) (by omega) fun z178 hz178 => ?_
  refine ls_sld rfl (by omega) (by omega) ?_
  refine (show Ev _ 665 ([some (.retAddr 0), some (.ref 0), some (.ref 69), some (.ref 87), some (.int z), a5, a6], [.int (xs z178.toNatClampNeg), .ref 0], (m, k), hp) _ from ?_)
  refine Ev.step (j := 666) (s' := ([some (.retAddr 0), some (.ref 0), some (.ref 69), some (.ref 87), some (.int z), a5, a6], [.retAddr 0, .int (xs z178.toNatClampNeg), .ref 0], (m, k), hp)) rfl rfl ?_
  refine Ev.step (j := 668) (s' := ([some (.retAddr 0), some (.ref 0), some (.ref 69), some (.ref 87), some (.int z), a5, a6], [.int z, .retAddr 0, .int (xs z178.toNatClampNeg), .ref 0], (m, k), hp)) rfl rfl ?_
  refine bs_lit (k := 2) rfl rfl fun z179 hz179 => ?_
  refine bs_add rfl (by omega) (by omega) fun z180 hz180 => ?_
  refine ls_sld rfl (by omega) (by omega) ?_
  refine (show Ev _ 671 ([some (.retAddr 0), some (.ref 0), some (.ref 69), some (.ref 87), some (.int z), a5, a6], [.int (xs z180.toNatClampNeg), .int (xs z178.toNatClampNeg), .ref 0], (m, k), hp) _ from ?_)
  refine Ev.step (j := 672) (s' := ([some (.retAddr 0), some (.ref 0), some (.ref 69), some (.ref 87), some (.int z), a5, a6], [.retAddr 0, .int (xs z180.toNatClampNeg), .int (xs z178.toNatClampNeg), .ref 0], (m, k), hp)) rfl rfl ?_
  refine Ev.step (j := 674) (s' := ([some (.retAddr 0), some (.ref 0), some (.ref 69), some (.ref 87), some (.int z), a5, a6], [.int z, .retAddr 0, .int (xs z180.toNatClampNeg), .int (xs z178.toNatClampNeg), .ref 0], (m, k), hp)) rfl rfl ?_
  refine bs_lit (k := 3) rfl rfl fun z181 hz181 => ?_
  refine bs_add rfl (by omega) (by omega) fun z182 hz182 => ?_
  refine ls_sld rfl (by omega) (by omega) ?_
  refine (show Ev _ 677 ([some (.retAddr 0), some (.ref 0), some (.ref 69), some (.ref 87), some (.int z), a5, a6], [.int (xs z182.toNatClampNeg), .int (xs z180.toNatClampNeg), .int (xs z178.toNatClampNeg), .ref 0], (m, k), hp) _ from ?_)
  refine bs_callx (K := kq_X10_waste_7e6f69) [.ref 0, .int (xs z178.toNatClampNeg), .int (xs z180.toNatClampNeg), .int (xs z182.toNatClampNeg)] [] rfl (sf_cX ct_X10_waste_7e6f69) H rfl rfl rfl (bs_rcv (g := 10) H (bs_R.uq H (g := 10) rfl) (by decide) rfl) (ls_room (Nat.le_of_ble_eq_true rfl) (by omega) (by omega)) ?_ (sf_S_nil) fun r184 hp183 thp183 Hhp183 fhp183 ahp183 php183 xhp183 => ?_
  · intro q k h
    match q, h with
    | 0, h => cases h; exact bs_jR (bs_R.uq H (g := 10) rfl)
    | 1, h => cases h; exact sf_j0
    | 2, h => cases h; exact sf_j0
    | 3, h => cases h; exact sf_j0
    | q + 4, h => cases h
  obtain ⟨z185, rfl⟩ := bs_anI ahp183
  have E186 := lw_keep H fhp183 rfl rfl rfl rfl rfl hs
  obtain ⟨ew1, hC1, hX1⟩ := pC H (d_waste hC hD _ _ _) xhp183 hX
  refine (show Ev _ 680 ([some (.retAddr 0), some (.ref 0), some (.ref 69), some (.ref 87), some (.int z), a5, a6], [.int z185], (m + 8, k + 138), hp183) _ from ?_)
  refine Ev.step (j := 681) (s' := ([some (.retAddr 0), some (.ref 0), some (.ref 69), some (.ref 87), some (.int z), a5, a6], [], (m + 8, k + 138), hp183)) rfl rfl ?_
  refine Ev.step (j := 682) (s' := ([some (.retAddr 0), some (.ref 0), some (.ref 69), some (.ref 87), some (.int z), a5, a6], [.ref 69], (m + 8, k + 138), hp183)) rfl rfl ?_
  refine Ev.step (j := 683) (s' := ([some (.retAddr 0), some (.ref 0), some (.ref 69), some (.ref 87), some (.int z), a5, a6], [.retAddr 0, .ref 69], (m + 8, k + 138), hp183)) rfl rfl ?_
  refine Ev.step (j := 685) (s' := ([some (.retAddr 0), some (.ref 0), some (.ref 69), some (.ref 87), some (.int z), a5, a6], [.int z, .retAddr 0, .ref 69], (m + 8, k + 138), hp183)) rfl rfl ?_
  refine bs_lit (k := 1) rfl rfl fun z187 hz187 => ?_
  refine bs_add rfl (by omega) (by omega) fun z188 hz188 => ?_
  refine ls_sld rfl (by omega) (by omega) ?_
  refine (show Ev _ 688 ([some (.retAddr 0), some (.ref 0), some (.ref 69), some (.ref 87), some (.int z), a5, a6], [.int (xs z188.toNatClampNeg), .ref 69], (m + 8, k + 138), hp183) _ from ?_)
  refine Ev.step (j := 689) (s' := ([some (.retAddr 0), some (.ref 0), some (.ref 69), some (.ref 87), some (.int z), a5, a6], [.retAddr 0, .int (xs z188.toNatClampNeg), .ref 69], (m + 8, k + 138), hp183)) rfl rfl ?_
  refine Ev.step (j := 691) (s' := ([some (.retAddr 0), some (.ref 0), some (.ref 69), some (.ref 87), some (.int z), a5, a6], [.int z, .retAddr 0, .int (xs z188.toNatClampNeg), .ref 69], (m + 8, k + 138), hp183)) rfl rfl ?_
  refine bs_lit (k := 2) rfl rfl fun z189 hz189 => ?_
  refine bs_add rfl (by omega) (by omega) fun z190 hz190 => ?_
  refine ls_sld rfl (by omega) (by omega) ?_
  refine (show Ev _ 694 ([some (.retAddr 0), some (.ref 0), some (.ref 69), some (.ref 87), some (.int z), a5, a6], [.int (xs z190.toNatClampNeg), .int (xs z188.toNatClampNeg), .ref 69], (m + 8, k + 138), hp183) _ from ?_)
  refine Ev.step (j := 695) (s' := ([some (.retAddr 0), some (.ref 0), some (.ref 69), some (.ref 87), some (.int z), a5, a6], [.retAddr 0, .int (xs z190.toNatClampNeg), .int (xs z188.toNatClampNeg), .ref 69], (m + 8, k + 138), hp183)) rfl rfl ?_
  refine Ev.step (j := 697) (s' := ([some (.retAddr 0), some (.ref 0), some (.ref 69), some (.ref 87), some (.int z), a5, a6], [.int z, .retAddr 0, .int (xs z190.toNatClampNeg), .int (xs z188.toNatClampNeg), .ref 69], (m + 8, k + 138), hp183)) rfl rfl ?_
  refine bs_lit (k := 3) rfl rfl fun z191 hz191 => ?_
  refine bs_add rfl (by omega) (by omega) fun z192 hz192 => ?_
  refine ls_sld rfl (by omega) (by omega) ?_
  refine (show Ev _ 700 ([some (.retAddr 0), some (.ref 0), some (.ref 69), some (.ref 87), some (.int z), a5, a6], [.int (xs z192.toNatClampNeg), .int (xs z190.toNatClampNeg), .int (xs z188.toNatClampNeg), .ref 69], (m + 8, k + 138), hp183) _ from ?_)
  refine bs_callx (K := kq_X11_waste_h) [.ref 69, .int (xs z188.toNatClampNeg), .int (xs z190.toNatClampNeg), .int (xs z192.toNatClampNeg)] [] rfl (sf_cX ct_X11_waste_h) Hhp183 rfl rfl rfl (bs_rcv (g := 11) Hhp183 (bs_R.uq Hhp183 (g := 11) rfl) (by decide) rfl) (ls_room (Nat.le_of_ble_eq_true rfl) (by omega) (by omega)) ?_ (sf_S_nil) fun r194 hp193 thp193 Hhp193 fhp193 ahp193 php193 xhp193 => ?_
  · intro q k h
    match q, h with
    | 0, h => cases h; exact bs_jR (bs_R.uq Hhp183 (g := 11) rfl)
    | 1, h => cases h; exact sf_j0
    | 2, h => cases h; exact sf_j0
    | 3, h => cases h; exact sf_j0
    | q + 4, h => cases h
  obtain ⟨z195, rfl⟩ := bs_anI ahp193
  have E196 := lw_keep Hhp183 fhp193 rfl rfl rfl rfl rfl E186
  rw [show z188 = z178 from Int32.toInt_inj.mp (by omega)] at xhp193
  rw [show z190 = z180 from Int32.toInt_inj.mp (by omega)] at xhp193
  rw [show z192 = z182 from Int32.toInt_inj.mp (by omega)] at xhp193
  obtain ⟨ew2, hX2, hC2⟩ := pX Hhp183 (e_waste hX1 hD _ _ _) xhp193 hC1
  refine (show Ev _ 703 ([some (.retAddr 0), some (.ref 0), some (.ref 69), some (.ref 87), some (.int z), a5, a6], [.int z195], (m + 8 + 0, k + 138 + 0), hp193) _ from ?_)
  refine Ev.step (j := 704) (s' := ([some (.retAddr 0), some (.ref 0), some (.ref 69), some (.ref 87), some (.int z), a5, a6], [], (m + 8 + 0, k + 138 + 0), hp193)) rfl rfl ?_
  refine Ev.step (j := 1468) (s' := ([some (.retAddr 0), some (.ref 0), some (.ref 69), some (.ref 87), some (.int z), a5, a6], [], (m + 8 + 0, k + 138 + 0), hp193)) rfl rfl ?_
  exact K _ _ _ _ _ _ Hhp193 ⟨E196, _, (hD.k (INV_act hD.2.1 hX.T.gb (by decide))), hC2, hX2⟩ (by omega) (by omega)
set_option maxRecDepth 100000 in
set_option maxHeartbeats 4000000 in
theorem op_die {xs : Nat → Int32} {n : Nat} {z : Int32} {a5 a6 : Option Value} {m k : Nat} {hp : ab_H} {t : Nat → Nat} {Q : ab_O → Prop} (H : sf_h t hp) (hs : lw_eq hp) (hz0 : 0 ≤ z.toInt) (hz1 : z.toInt + 6 ≤ n) (hn : n ≤ 3072) (hm : m + 21 ≤ 709736) (hk : k + 410 ≤ 6966897) (K : lw_K xs n z m k Q) : Ev (LT xs n) 707 ([some (.retAddr 0), some (.ref 0), some (.ref 69), some (.ref 87), some (.int z), a5, a6], [], (m, k), hp) Q := by
  obtain ⟨hs, D, hD, hC, hX⟩ := hs
  refine Ev.step (j := 708) (s' := ([some (.retAddr 0), some (.ref 0), some (.ref 69), some (.ref 87), some (.int z), a5, a6], [.ref 0], (m, k), hp)) rfl rfl ?_
  refine Ev.step (j := 709) (s' := ([some (.retAddr 0), some (.ref 0), some (.ref 69), some (.ref 87), some (.int z), a5, a6], [.retAddr 0, .ref 0], (m, k), hp)) rfl rfl ?_
  refine Ev.step (j := 711) (s' := ([some (.retAddr 0), some (.ref 0), some (.ref 69), some (.ref 87), some (.int z), a5, a6], [.int z, .retAddr 0, .ref 0], (m, k), hp)) rfl rfl ?_
  refine bs_lit (k := 1) rfl rfl fun z197 hz197 => ?_
  refine bs_add rfl (by omega) (by omega) fun z198 hz198 => ?_
  refine ls_sld rfl (by omega) (by omega) ?_
  refine (show Ev _ 714 ([some (.retAddr 0), some (.ref 0), some (.ref 69), some (.ref 87), some (.int z), a5, a6], [.int (xs z198.toNatClampNeg), .ref 0], (m, k), hp) _ from ?_)
  refine bs_callx (K := kq_X10_die_0df2a5) [.ref 0, .int (xs z198.toNatClampNeg)] [] rfl (sf_cX ct_X10_die_0df2a5) H rfl rfl rfl (bs_rcv (g := 10) H (bs_R.uq H (g := 10) rfl) (by decide) rfl) (ls_room (Nat.le_of_ble_eq_true rfl) (by omega) (by omega)) ?_ (sf_S_nil) fun r200 hp199 thp199 Hhp199 fhp199 ahp199 php199 xhp199 => ?_
  · intro q k h
    match q, h with
    | 0, h => cases h; exact bs_jR (bs_R.uq H (g := 10) rfl)
    | 1, h => cases h; exact sf_j0
    | q + 2, h => cases h
  obtain ⟨z201, rfl⟩ := bs_anI ahp199
  have E202 := lw_keep H fhp199 rfl rfl rfl rfl rfl hs
  obtain ⟨ew1, hC1, hX1⟩ := pC H (d_die hC hD _) xhp199 hX
  refine (show Ev _ 717 ([some (.retAddr 0), some (.ref 0), some (.ref 69), some (.ref 87), some (.int z), a5, a6], [.int z201], (m + 8, k + 138), hp199) _ from ?_)
  refine Ev.step (j := 718) (s' := ([some (.retAddr 0), some (.ref 0), some (.ref 69), some (.ref 87), some (.int z), a5, a6], [], (m + 8, k + 138), hp199)) rfl rfl ?_
  refine Ev.step (j := 719) (s' := ([some (.retAddr 0), some (.ref 0), some (.ref 69), some (.ref 87), some (.int z), a5, a6], [.ref 69], (m + 8, k + 138), hp199)) rfl rfl ?_
  refine Ev.step (j := 720) (s' := ([some (.retAddr 0), some (.ref 0), some (.ref 69), some (.ref 87), some (.int z), a5, a6], [.retAddr 0, .ref 69], (m + 8, k + 138), hp199)) rfl rfl ?_
  refine Ev.step (j := 722) (s' := ([some (.retAddr 0), some (.ref 0), some (.ref 69), some (.ref 87), some (.int z), a5, a6], [.int z, .retAddr 0, .ref 69], (m + 8, k + 138), hp199)) rfl rfl ?_
  refine bs_lit (k := 1) rfl rfl fun z203 hz203 => ?_
  refine bs_add rfl (by omega) (by omega) fun z204 hz204 => ?_
  refine ls_sld rfl (by omega) (by omega) ?_
  refine (show Ev _ 725 ([some (.retAddr 0), some (.ref 0), some (.ref 69), some (.ref 87), some (.int z), a5, a6], [.int (xs z204.toNatClampNeg), .ref 69], (m + 8, k + 138), hp199) _ from ?_)
  refine bs_callx (K := kq_X11_die_3d45d6) [.ref 69, .int (xs z204.toNatClampNeg)] [] rfl (sf_cX ct_X11_die_3d45d6) Hhp199 rfl rfl rfl (bs_rcv (g := 11) Hhp199 (bs_R.uq Hhp199 (g := 11) rfl) (by decide) rfl) (ls_room (Nat.le_of_ble_eq_true rfl) (by omega) (by omega)) ?_ (sf_S_nil) fun r206 hp205 thp205 Hhp205 fhp205 ahp205 php205 xhp205 => ?_
  · intro q k h
    match q, h with
    | 0, h => cases h; exact bs_jR (bs_R.uq Hhp199 (g := 11) rfl)
    | 1, h => cases h; exact sf_j0
    | q + 2, h => cases h
  obtain ⟨z207, rfl⟩ := bs_anI ahp205
  have E208 := lw_keep Hhp199 fhp205 rfl rfl rfl rfl rfl E202
  rw [show z204 = z198 from Int32.toInt_inj.mp (by omega)] at xhp205
  obtain ⟨ew2, hX2, hC2⟩ := pX Hhp199 (e_die hX1 hD _) xhp205 hC1
  refine (show Ev _ 728 ([some (.retAddr 0), some (.ref 0), some (.ref 69), some (.ref 87), some (.int z), a5, a6], [.int z207], (m + 8 + 0, k + 138 + 0), hp205) _ from ?_)
  refine Ev.step (j := 729) (s' := ([some (.retAddr 0), some (.ref 0), some (.ref 69), some (.ref 87), some (.int z), a5, a6], [], (m + 8 + 0, k + 138 + 0), hp205)) rfl rfl ?_
  refine Ev.step (j := 1468) (s' := ([some (.retAddr 0), some (.ref 0), some (.ref 69), some (.ref 87), some (.int z), a5, a6], [], (m + 8 + 0, k + 138 + 0), hp205)) rfl rfl ?_
  exact K _ _ _ _ _ _ Hhp205 ⟨E208, _, (hD.k (INV_die hD.2.1)), hC2, hX2⟩ (by omega) (by omega)
set_option maxRecDepth 100000 in
set_option maxHeartbeats 4000000 in
theorem op_days {xs : Nat → Int32} {n : Nat} {z : Int32} {a5 a6 : Option Value} {m k : Nat} {hp : ab_H} {t : Nat → Nat} {Q : ab_O → Prop} (H : sf_h t hp) (hs : lw_eq hp) (hz0 : 0 ≤ z.toInt) (hz1 : z.toInt + 6 ≤ n) (hn : n ≤ 3072) (hm : m + 21 ≤ 709736) (hk : k + 410 ≤ 6966897) (K : lw_K xs n z m k Q) : Ev (LT xs n) 732 ([some (.retAddr 0), some (.ref 0), some (.ref 69), some (.ref 87), some (.int z), a5, a6], [], (m, k), hp) Q := by
  obtain ⟨hs, D, hD, hC, hX⟩ := hs
  refine Ev.step (j := 733) (s' := ([some (.retAddr 0), some (.ref 0), some (.ref 69), some (.ref 87), some (.int z), a5, a6], [.ref 0], (m, k), hp)) rfl rfl ?_
  refine Ev.step (j := 734) (s' := ([some (.retAddr 0), some (.ref 0), some (.ref 69), some (.ref 87), some (.int z), a5, a6], [.retAddr 0, .ref 0], (m, k), hp)) rfl rfl ?_
  refine Ev.step (j := 736) (s' := ([some (.retAddr 0), some (.ref 0), some (.ref 69), some (.ref 87), some (.int z), a5, a6], [.int z, .retAddr 0, .ref 0], (m, k), hp)) rfl rfl ?_
  refine bs_lit (k := 1) rfl rfl fun z209 hz209 => ?_
  refine bs_add rfl (by omega) (by omega) fun z210 hz210 => ?_
  refine ls_sld rfl (by omega) (by omega) ?_
  refine (show Ev _ 739 ([some (.retAddr 0), some (.ref 0), some (.ref 69), some (.ref 87), some (.int z), a5, a6], [.int (xs z210.toNatClampNeg), .ref 0], (m, k), hp) _ from ?_)
  refine bs_callx (K := kq_X10_days_0df2a5) [.ref 0, .int (xs z210.toNatClampNeg)] [] rfl (sf_cX ct_X10_days_0df2a5) H rfl rfl rfl (bs_rcv (g := 10) H (bs_R.uq H (g := 10) rfl) (by decide) rfl) (ls_room (Nat.le_of_ble_eq_true rfl) (by omega) (by omega)) ?_ (sf_S_nil) fun r212 hp211 thp211 Hhp211 fhp211 ahp211 php211 xhp211 => ?_
  · intro q k h
    match q, h with
    | 0, h => cases h; exact bs_jR (bs_R.uq H (g := 10) rfl)
    | 1, h => cases h; exact sf_j0
    | q + 2, h => cases h
  obtain ⟨z213, rfl⟩ := bs_anI ahp211
  have E214 := lw_keep H fhp211 rfl rfl rfl rfl rfl hs
  obtain ⟨ew1, hC1, hX1⟩ := pC H (d_days hC hD _) xhp211 hX
  refine (show Ev _ 742 ([some (.retAddr 0), some (.ref 0), some (.ref 69), some (.ref 87), some (.int z), a5, a6], [.int z213], (m + 8, k + 138), hp211) _ from ?_)
  refine Ev.step (j := 743) (s' := ([some (.retAddr 0), some (.ref 0), some (.ref 69), some (.ref 87), some (.int z), a5, a6], [], (m + 8, k + 138), hp211)) rfl rfl ?_
  refine Ev.step (j := 744) (s' := ([some (.retAddr 0), some (.ref 0), some (.ref 69), some (.ref 87), some (.int z), a5, a6], [.ref 69], (m + 8, k + 138), hp211)) rfl rfl ?_
  refine Ev.step (j := 745) (s' := ([some (.retAddr 0), some (.ref 0), some (.ref 69), some (.ref 87), some (.int z), a5, a6], [.retAddr 0, .ref 69], (m + 8, k + 138), hp211)) rfl rfl ?_
  refine Ev.step (j := 747) (s' := ([some (.retAddr 0), some (.ref 0), some (.ref 69), some (.ref 87), some (.int z), a5, a6], [.int z, .retAddr 0, .ref 69], (m + 8, k + 138), hp211)) rfl rfl ?_
  refine bs_lit (k := 1) rfl rfl fun z215 hz215 => ?_
  refine bs_add rfl (by omega) (by omega) fun z216 hz216 => ?_
  refine ls_sld rfl (by omega) (by omega) ?_
  refine (show Ev _ 750 ([some (.retAddr 0), some (.ref 0), some (.ref 69), some (.ref 87), some (.int z), a5, a6], [.int (xs z216.toNatClampNeg), .ref 69], (m + 8, k + 138), hp211) _ from ?_)
  refine bs_callx (K := kq_X11_days_3d45d6) [.ref 69, .int (xs z216.toNatClampNeg)] [] rfl (sf_cX ct_X11_days_3d45d6) Hhp211 rfl rfl rfl (bs_rcv (g := 11) Hhp211 (bs_R.uq Hhp211 (g := 11) rfl) (by decide) rfl) (ls_room (Nat.le_of_ble_eq_true rfl) (by omega) (by omega)) ?_ (sf_S_nil) fun r218 hp217 thp217 Hhp217 fhp217 ahp217 php217 xhp217 => ?_
  · intro q k h
    match q, h with
    | 0, h => cases h; exact bs_jR (bs_R.uq Hhp211 (g := 11) rfl)
    | 1, h => cases h; exact sf_j0
    | q + 2, h => cases h
  obtain ⟨z219, rfl⟩ := bs_anI ahp217
  have E220 := lw_keep Hhp211 fhp217 rfl rfl rfl rfl rfl E214
  rw [show z216 = z210 from Int32.toInt_inj.mp (by omega)] at xhp217
  obtain ⟨ew2, hX2, hC2⟩ := pX Hhp211 (e_days hX1 hD _) xhp217 hC1
  refine (show Ev _ 753 ([some (.retAddr 0), some (.ref 0), some (.ref 69), some (.ref 87), some (.int z), a5, a6], [.int z219], (m + 8 + 0, k + 138 + 0), hp217) _ from ?_)
  refine Ev.step (j := 754) (s' := ([some (.retAddr 0), some (.ref 0), some (.ref 69), some (.ref 87), some (.int z), a5, a6], [], (m + 8 + 0, k + 138 + 0), hp217)) rfl rfl ?_
  refine Ev.step (j := 1468) (s' := ([some (.retAddr 0), some (.ref 0), some (.ref 69), some (.ref 87), some (.int z), a5, a6], [], (m + 8 + 0, k + 138 + 0), hp217)) rfl rfl ?_
  exact K _ _ _ _ _ _ Hhp217 ⟨E220, _, (hD.k (INV_dys hD.2.1 hD.1 hX.T.gb)), hC2, hX2⟩ (by omega) (by omega)
end
