set_option maxRecDepth 100000 in
set_option maxHeartbeats 4000000 in
theorem q_log {F : FW} {tn n : Nat} {T : St} {S : Sh} {nm : Nat → Int} {H : Nat → Sh} {l : Int32} (hG : GW F) (hT : XT F T) (hTB : TBB T) (hI : INV T S) (hS : XS F (t_m T) S) (hH : HSX F (t_m T) n H) (hMg : ∀ g, g < t_g T → (F.2.2.1 74 (0 + g)).toInt = nm (0 + g)) (hMm : ∀ g, g < t_m T → (F.2.2.1 74 (6 + g)).toInt = nm (6 + g)) (hW : RWF F) (h2 : F.1 69 2 = Int32.ofNat tn) (htn : tn ≤ 940) : Pm Z_X11_log [.ref 69, .int l] F (fun r F' => (¬ (l = 0 ∨ l = 1) ∧ r = some (.int (-1000)) ∧ F' = fp F 69 0 0) ∨ ((l = 0 ∨ l = 1) ∧ ∃ F1, TKN F F1 ∧ F1.1 69 2 = 0 ∧ LGW F1 F' (RBF F tn) tn T S nm n H l r)) := by
  refine Pm.of fun N => ?_
  obtain ⟨Q, hQ⟩ : ∃ Q : Option Value → FW → Prop, Q = (fun r F' => (¬ (l = 0 ∨ l = 1) ∧ r = some (.int (-1000)) ∧ F' = fp F 69 0 0) ∨ ((l = 0 ∨ l = 1) ∧ ∃ F1, TKN F F1 ∧ F1.1 69 2 = 0 ∧ LGW F1 F' (RBF F tn) tn T S nm n H l r)) := ⟨_, rfl⟩
  rw [← hQ]
  refine (show Pv (ab_T (L_X11_log Z_X11_isIn Z_X11_taken Z_X11_next Z_X11_logLine Z_X11_sign Z_X11_tries Z_X11_does Z_X11_keep Z_X11_back)) N 0 [some (.ref 69), some (.int l), none, none, none] [] F Q from ?_)
  refine Pv.aload rfl rfl ?_
  refine Pv.lit rfl ?_
  refine Pv.putI rfl rfl ?_
  refine Pv.iload rfl rfl ?_
  refine Pv.lit rfl ?_
  refine Pv.lit rfl ?_
  refine Pv.callI (as := [.int l, .int 0, .int 1]) (rest := []) (z := b2i (decide (0 ≤ l) && decide (l ≤ 1))) rfl rfl rfl (q_isIn l 0 1) ?_
  refine Pv.if0 rfl (fun c1 => ?_) (fun c1 => ?_)
  · skip
    replace c1 : decide (b2i (decide (0 ≤ l) && decide (l ≤ 1)) = 0) = false := by simpa using c1
    replace c1 := of_decide_eq_false c1
    replace c1 := b2n.mp c1
    refine Pv.aload rfl rfl ?_
    refine Pv.lit rfl ?_
    refine Pv.callV (as := [.ref 69, .int 400]) (rest := []) (Q' := (fun r F' => Pv (ab_T (L_X11_log Z_X11_isIn Z_X11_taken Z_X11_next Z_X11_logLine Z_X11_sign Z_X11_tries Z_X11_does Z_X11_keep Z_X11_back)) N 25 [some (.ref 69), some (.int l), none, none, none] (r.toList ++ []) F' Q)) rfl rfl rfl ?_ (fun r F' h => h)
    refine Pm.of fun N3 => ?_
    obtain ⟨Q2, hQ2⟩ : ∃ Qx : Option Value → FW → Prop, Qx = (fun r F' => Pv (ab_T (L_X11_log Z_X11_isIn Z_X11_taken Z_X11_next Z_X11_logLine Z_X11_sign Z_X11_tries Z_X11_does Z_X11_keep Z_X11_back)) N 25 [some (.ref 69), some (.int l), none, none, none] (r.toList ++ []) F' Q) := ⟨_, rfl⟩
    rw [← hQ2]
    refine (show Pv (ab_T L_X11_taken) N3 0 [some (.ref 69), some (.int 400)] [] (fp F 69 0 0) Q2 from ?_)
    refine Pv.aload rfl rfl ?_
    refine Pv.aload rfl rfl ?_
    refine Pv.getI (z := Int32.ofNat tn) rfl rfl ((fp_ne (Or.inr (by decide))).trans (h2)) ?_
    refine Pv.putI rfl rfl ?_
    refine Pv.aload rfl rfl ?_
    refine Pv.lit rfl ?_
    refine Pv.putI rfl rfl ?_
    refine Pv.aload rfl rfl ?_
    refine Pv.lit rfl ?_
    refine Pv.putI rfl rfl ?_
    refine Pv.aload rfl rfl ?_
    refine Pv.iload rfl rfl ?_
    refine Pv.putI rfl rfl ?_
    refine Pv.vret rfl ?_
    rw [hQ2]
    refine (show Pv (ab_T (L_X11_log Z_X11_isIn Z_X11_taken Z_X11_next Z_X11_logLine Z_X11_sign Z_X11_tries Z_X11_does Z_X11_keep Z_X11_back)) N 25 [some (.ref 69), some (.int l), none, none, none] [] (fp (fp (fp (fp (fp F 69 0 0) 69 3 (Int32.ofNat tn)) 69 2 0) 69 4 0) 69 5 400) Q from ?_)
    refine Pv.aload rfl rfl ?_
    refine Pv.lit rfl ?_
    refine Pv.putI rfl rfl ?_
    refine Pv.aload rfl rfl ?_
    refine Pv.lit rfl ?_
    refine Pv.putI rfl rfl ?_
    refine Pv.aload rfl rfl ?_
    have k1 : TKN F (fp (fp (fp (fp (fp (fp (fp F 69 0 0) 69 3 (Int32.ofNat tn)) 69 2 0) 69 4 0) 69 5 400) 69 15 0) 69 30 0) := (TKN.fp (TKN.fp (TKN.fp (TKN.fp (TKN.fp (TKN.fp (TKN.fp TKN.rf (Or.inl rfl)) (Or.inr (Or.inr (Or.inl rfl)))) (Or.inr (Or.inl rfl))) (Or.inr (Or.inr (Or.inr (Or.inl rfl))))) (Or.inr (Or.inr (Or.inr (Or.inr (Or.inl rfl)))))) (Or.inr (Or.inr (Or.inr (Or.inr (Or.inr (Or.inl rfl))))))) (Or.inr (Or.inr (Or.inr (Or.inr (Or.inr (Or.inr rfl)))))))
    refine Pv.callV (as := [.ref 69]) (rest := []) rfl rfl rfl (g_next (n := tn) (p := 0) (lim := 400) (k1.G hG) ((fp_ne (Or.inr (by decide))).trans ((fp_ne (Or.inr (by decide))).trans ((fp_ne (Or.inr (by decide))).trans ((fp_ne (Or.inr (by decide))).trans ((fp_ne (Or.inr (by decide))).trans (fp_eq)))))) ((fp_ne (Or.inr (by decide))).trans ((fp_ne (Or.inr (by decide))).trans ((fp_ne (Or.inr (by decide))).trans (fp_eq)))) ((fp_ne (Or.inr (by decide))).trans ((fp_ne (Or.inr (by decide))).trans (fp_eq))) htn (Nat.zero_le _) (by decide)) ?_
    rintro _ G ⟨rfl, x1, x2⟩
    have k2 : TKN F G := k1.nx x1
    have gG := k2.G hG
    have e2 : G.1 69 2 = 0 := (x1.2.1 2 (by decide) (by decide) (by decide) (by decide) (by decide)).trans ((fp_ne (Or.inr (by decide))).trans ((fp_ne (Or.inr (by decide))).trans ((fp_ne (Or.inr (by decide))).trans ((fp_ne (Or.inr (by decide))).trans (fp_eq)))))
    have e15 : G.1 69 15 = 0 := (x1.2.1 15 (by decide) (by decide) (by decide) (by decide) (by decide)).trans ((fp_ne (Or.inr (by decide))).trans (fp_eq))
    have e30 : G.1 69 30 = 0 := (x1.2.1 30 (by decide) (by decide) (by decide) (by decide) (by decide)).trans (fp_eq)
    have ht : RTK G (RBF F tn) tn 400 0 := RTK.of0 x1 (fun k => (fp_ne (Or.inl (by decide))).trans ((fp_ne (Or.inl (by decide))).trans ((fp_ne (Or.inl (by decide))).trans ((fp_ne (Or.inl (by decide))).trans ((fp_ne (Or.inl (by decide))).trans ((fp_ne (Or.inl (by decide))).trans (fp_ne (Or.inl (by decide))))))))) ((fp_ne (Or.inr (by decide))).trans ((fp_ne (Or.inr (by decide))).trans ((fp_ne (Or.inr (by decide))).trans ((fp_ne (Or.inr (by decide))).trans ((fp_ne (Or.inr (by decide))).trans (fp_eq)))))) ((fp_ne (Or.inr (by decide))).trans ((fp_ne (Or.inr (by decide))).trans (fp_eq))) x2 htn (by decide)
    refine (show Pv _ _ 39 [some (.ref 69), some (.int l), none, none, none] [] G Q from ?_)
    have hl := i_01 c1
    refine Pv.imp (r_lg39 (k2.G hG) (k2.T hT) hTB hI (k2.S hT.mb hS) (k2.H hT.mb hH) (k2.N hMg) (k2.N hMm) (k2.W hW) hl ht e15 e30 _) ?_
    rintro r F' z
    rw [hQ]
    exact Or.inr ⟨hl, G, k2, e2, z⟩
  · skip
    replace c1 : decide (b2i (decide (0 ≤ l) && decide (l ≤ 1)) = 0) = true := by simpa using c1
    replace c1 := of_decide_eq_true c1
    replace c1 := b2z.mp c1
    refine Pv.lit rfl ?_
    exact Pv.ret rfl (by rw [hQ]; exact Or.inl ⟨i_01n c1, rfl, rfl⟩)
