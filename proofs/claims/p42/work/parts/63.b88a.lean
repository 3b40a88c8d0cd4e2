set_option maxRecDepth 100000 in
set_option maxHeartbeats 4000000 in
theorem r_lg309 {F F0 : FW} {l a : Int32} {o2 o4 : Option Value} (hG : GW F) (hR : RTL F0 F) (N : Nat) : Pv (ab_T (L_X11_log Z_X11_isIn Z_X11_taken Z_X11_next Z_X11_logLine Z_X11_sign Z_X11_tries Z_X11_does Z_X11_keep Z_X11_back)) N 309 [some (.ref 69), some (.int l), o2, some (.int a), o4] [] F (fun r F' => r = some (.int a) ∧ (l = 0 → RTB F0 F') ∧ (¬ l = 0 → F' = F)) := by
  obtain ⟨Q, hQ⟩ : ∃ Q : Option Value → FW → Prop, Q = (fun r F' => r = some (.int a) ∧ (l = 0 → RTB F0 F') ∧ (¬ l = 0 → F' = F)) := ⟨_, rfl⟩
  rw [← hQ]
  refine (show Pv (ab_T (L_X11_log Z_X11_isIn Z_X11_taken Z_X11_next Z_X11_logLine Z_X11_sign Z_X11_tries Z_X11_does Z_X11_keep Z_X11_back)) N 309 [some (.ref 69), some (.int l), o2, some (.int a), o4] [] F Q from ?_)
  refine Pv.iload rfl rfl ?_
  refine Pv.if0 rfl (fun c1 => ?_) (fun c1 => ?_)
  · skip
    replace c1 : decide (l = 0) = false := by simpa using c1
    replace c1 := of_decide_eq_false c1
    refine Pv.iload rfl rfl ?_
    exact Pv.ret rfl (by rw [hQ]; exact ⟨rfl, fun e => absurd e c1, fun _ => rfl⟩)
  · skip
    replace c1 : decide (l = 0) = true := by simpa using c1
    replace c1 := of_decide_eq_true c1
    refine Pv.aload rfl rfl ?_
    refine Pv.callV (as := [.ref 69]) (rest := []) rfl rfl rfl (g_back hG) ?_
    rintro _ G ⟨rfl, x1, x2, x3⟩
    refine (show Pv _ _ 317 [some (.ref 69), some (.int l), o2, some (.int a), o4] [] G Q from ?_)
    refine Pv.iload rfl rfl ?_
    exact Pv.ret rfl (by rw [hQ]; exact ⟨rfl, fun _ => RTL.bk hR x1 x2 x3, fun e => absurd c1 e⟩)
