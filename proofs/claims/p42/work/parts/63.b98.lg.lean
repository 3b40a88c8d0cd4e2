theorem HST.frz {P : Nat → Prop} {F G : FW} {m n : Nat} {H : Nat → Sh} (h : HST F m n H) (x : FRZ P F G) (c : ∀ a, P a → a < 88 ∧ a ≠ 10 ∧ a ≠ 11) (h88 : 88 ≤ F.2.2.2.1) : HST G m n H := by
  obtain ⟨k, s, hW, h1, h2, h3⟩ := h
  have np : ∀ a, 88 ≤ a → ¬ P a := fun a ha q => by
    have := (c a q).1
    omega
  have r11 := (x.2 11 (by omega) (fun q => (c 11 q).2.2 rfl)).2.1
  refine ⟨k, s, ⟨hW.1, fun j hj => ?_, fun j a b => (r11 j).trans (hW.2.2.1 j a b), hW.2.2.2⟩, h1, ((x.2 10 (by omega) (fun q => (c 10 q).2.1 rfl)).1 1).trans h2, fun j hj => ?_⟩
  · obtain ⟨b1, b2, b3, b4⟩ := hW.2.1 j hj
    exact ⟨(r11 j).trans b1, fun i hi => ((x.2 (s j) (by omega) (np _ b3)).2.1 i).trans (b2 i hi), b3, Nat.le_trans b4 x.1⟩
  · have b := hW.2.1 j (by omega)
    exact (h3 j hj).frz x (by omega) (fun a c1 c2 => np a (by omega))
theorem mvp_n {a : Nat} (h : 7 ≤ a) : ¬ MVP a := by
  intro c
  have c' : a = 1 ∨ a = 3 ∨ a = 4 ∨ a = 5 ∨ a = 6 := c
  omega
theorem mvp_l {a : Nat} (c : MVP a) : a < 88 ∧ a ≠ 10 ∧ a ≠ 11 := by
  have c' : a = 1 ∨ a = 3 ∨ a = 4 ∨ a = 5 ∨ a = 6 := c
  omega
set_option maxRecDepth 100000 in
set_option maxHeartbeats 4000000 in
theorem o_log {tt : Nat → Nat} {hp : ab_H} {t tn n : Nat} {T : St} {S : Sh} {nm : Nat → Int} {H : Nat → Sh} {l : Int32} (Hs : sf_h tt hp) (hce : sf_cE kq_X8_moveInto_v Z_X8_moveInto ke_X8_moveInto_v) (hn : sf_rd hp 1 1 = some (tn : Int)) (hG : GW (fl hp)) (ht : (fl hp).2.1 0 13 = .ref t) (hT : TR (fl hp) t T) (j0 : t = 45 ∨ t = 53) (hS : SHR (fl hp) 12 (t_m T) S) (hO : O7 (fl hp) 20) (hH : HST (fl hp) (t_m T) n H) (h88 : 88 ≤ (fl hp).2.2.2.1) (hN : NMC (fl hp) t T nm) : Pj Z_X10_log [.ref 0, .int l] hp (fun r F' => (¬ (l = 0 ∨ l = 1) ∧ r = some (.int (-1000)) ∧ F' = fl hp) ∨ ((l = 0 ∨ l = 1) ∧ ∃ F1, MVQ (fl hp) F1 (bv hp 2 tn) tn 400 ∧ LCW F1 F' (tok (bv hp 2 tn) tn 400) T S nm n H l r)) := by
  have hw := wt_of Hs
  refine Pj.of fun N => ?_
  obtain ⟨Q, hQ⟩ : ∃ Q : Option Value → FW → Prop, Q = (fun r F' => (¬ (l = 0 ∨ l = 1) ∧ r = some (.int (-1000)) ∧ F' = fl hp) ∨ ((l = 0 ∨ l = 1) ∧ ∃ F1, MVQ (fl hp) F1 (bv hp 2 tn) tn 400 ∧ LCW F1 F' (tok (bv hp 2 tn) tn 400) T S nm n H l r)) := ⟨_, rfl⟩
  rw [← hQ]
  have go : (l = 0 ∨ l = 1) → Pw (ab_T (L_X10_log Z_X8_moveInto Z_X4_readText Z_X6_copyFrom Z_X10_judgeLog Z_X6_hungerInAll Z_X2_keep)) N 13 [some (.ref 0), some (.int l), none] [] hp Q := fun hl => by
    refine Pw.aload rfl rfl ?_
    refine Pw.getR (v := .ref 1) hw rfl rfl (GW.at (a := 0) (k := 0) (b := 1) hG (by decide)) ?_
    refine Pw.aload rfl rfl ?_
    refine Pw.getR (v := .ref 3) hw rfl rfl (GW.at (a := 0) (k := 1) (b := 3) hG (by decide)) ?_
    refine Pw.lit rfl ?_
    refine Pw.callV (as := [.ref 1, .ref 3, .int (Int32.ofNat 400)]) (rest := []) rfl rfl rfl (fun o e => ?_)
    obtain ⟨w, r0, q⟩ := mv_flat (x := 400) Hs (by omega) hce hG h88 hn o e
    rw [r0]
    refine Pw.v w ?_
    refine (show Pv (ab_T (L_X10_log Z_X8_moveInto Z_X4_readText Z_X6_copyFrom Z_X10_judgeLog Z_X6_hungerInAll Z_X2_keep)) N 27 [some (.ref 0), some (.int l), none] [] (fl o.2) Q from ?_)
    have q' := q
    obtain ⟨z, g1, h4, h9, -, m, tk⟩ := q
    refine Pv.imp (o_lg27 g1 (((z.2 0 (by omega) (by decide)).2.1 13).trans ht) (hT.frz z (by omega) (fun a c1 c2 => mvp_n (by omega))) j0 (hS.frz z (by omega) (fun a c1 c2 => mvp_n (by omega))) (fun i hi => ((z.2 20 (by omega) (by decide)).2.1 i).trans (hO i hi)) (hH.frz z (fun a c => mvp_l c) h88) (Nat.le_trans h88 z.1) hl (hN.frz z (by omega) (mvp_n (by omega)) (mvp_n (by omega))) tk h4 h9 N) ?_
    rintro r F' x
    rw [hQ]
    exact Or.inr ⟨hl, fl o.2, q', x⟩
  refine (show Pw (ab_T (L_X10_log Z_X8_moveInto Z_X4_readText Z_X6_copyFrom Z_X10_judgeLog Z_X6_hungerInAll Z_X2_keep)) N 0 [some (.ref 0), some (.int l), none] [] hp Q from ?_)
  refine Pw.iload rfl rfl ?_
  refine Pw.if0 rfl (fun c1 => ?_) (fun c1 => ?_)
  · exact go (Or.inl (of_decide_eq_true c1))
  · refine Pw.iload rfl rfl ?_
    refine Pw.lit rfl ?_
    refine Pw.icmp rfl (fun c2 => ?_) (fun c2 => ?_)
    · exact go (Or.inr (of_decide_eq_true c2))
    · refine Pw.v hw ?_
      refine Pv.lit rfl ?_
      exact Pv.ret rfl (by rw [hQ]; exact Or.inl ⟨fun c => c.elim (of_decide_eq_false c1) (of_decide_eq_false c2), rfl, rfl⟩)
