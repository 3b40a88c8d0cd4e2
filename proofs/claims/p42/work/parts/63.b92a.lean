set_option maxRecDepth 100000 in
set_option maxHeartbeats 4000000 in
theorem r_lg39 {F : FW} {B : Nat → Int} {tn n : Nat} {T : St} {S : Sh} {nm : Nat → Int} {H : Nat → Sh} {l : Int32} (hG : GW F) (hT : XT F T) (hTB : TBB T) (hI : INV T S) (hS : XS F (t_m T) S) (hH : HSX F (t_m T) n H) (hMg : ∀ g, g < t_g T → (F.2.2.1 74 (0 + g)).toInt = nm (0 + g)) (hMm : ∀ g, g < t_m T → (F.2.2.1 74 (6 + g)).toInt = nm (6 + g)) (hW : RWF F) (hl : l = 0 ∨ l = 1) (ht0 : RTK F B tn 400 0) (h15 : F.1 69 15 = 0) (h30 : F.1 69 30 = 0) (N : Nat) : Pv (ab_T (L_X11_log Z_X11_isIn Z_X11_taken Z_X11_next Z_X11_logLine Z_X11_sign Z_X11_tries Z_X11_does Z_X11_keep Z_X11_back)) N 39 [some (.ref 69), some (.int l), none, none, none] [] F (fun r F' => LGW F F' B tn T S nm n H l r) := by
  obtain ⟨Q, hQ⟩ : ∃ Q : Option Value → FW → Prop, Q = (fun r F' => LGW F F' B tn T S nm n H l r) := ⟨_, rfl⟩
  rw [← hQ]
  refine (show Pv (ab_T (L_X11_log Z_X11_isIn Z_X11_taken Z_X11_next Z_X11_logLine Z_X11_sign Z_X11_tries Z_X11_does Z_X11_keep Z_X11_back)) N 39 [some (.ref 69), some (.int l), none, none, none] [] F Q from ?_)
  refine Pv.lp (ι := Nat × Nat × LN × FW) (lof := fun ⟨k, i, L, G⟩ => [some (.ref 69), some (.int l), none, none, none]) (Ff := fun ⟨k, i, L, G⟩ => G) (P := fun ⟨k, i, L, G⟩ => k ≤ 40 ∧ RZX F G ∧ lgs (tok B tn 400) nm (t_g T) (t_m T) k = some (L, i) ∧ RTK G B tn 400 i ∧ G.1 69 15 = 0 ∧ G.1 69 30 = Int32.ofNat k ∧ LRS G L k ∧ ∀ l, l < k → LYK T (L l)) ?_ (0, 0, (fun _ => (0, 0, 0)), F) (⟨Nat.zero_le _, RZX.rf, rfl, ht0, h15, h30, fun l hl => absurd hl (Nat.not_lt_zero l), fun l hl => absurd hl (Nat.not_lt_zero l)⟩)
  rintro N1 hN2 ⟨k, i, L, G⟩ hi3 ih4
  refine (show Pv _ _ 39 [some (.ref 69), some (.int l), none, none, none] [] G Q from ?_)
  obtain ⟨hk, hz, hls, ht, h15, h30, hL, hK⟩ := hi3
  have gG := RZX.G hz hG
  refine Pv.aloadS rfl rfl ?_
  refine Pv.getI (z := G.1 69 11) rfl rfl (rfl) ?_
  refine Pv.if0 rfl (fun c5 => ?_) (fun c5 => ?_)
  · skip
    replace c5 := of_decide_eq_true c5
    have hk0 : ((tok B tn 400) i).k = 0 := rkk_z0.mp (ht.2.2.2.1.2.2.1.symm.trans (congrArg Int32.toInt c5))
    refine Pv.imp (r_lg83 gG (hz.T hT) hTB hI (hz.S hT.mb hS) (hz.H hT.mb hH) hL hK h30 hk hl _) ?_
    rintro r F' ⟨e, z⟩
    rw [hQ]
    exact Or.inl ⟨k, L, i, G, ⟨i, hls, lge_0 hk0⟩, hK, hz, h15, e, z⟩
  · skip
    replace c5 := of_decide_eq_false c5
    refine Pv.aload rfl rfl ?_
    refine Pv.callV (as := [.ref 69]) (rest := []) rfl rfl rfl (r_logLine (E := T) (nm := nm) (c := k) gG ht (hz.T hT) h30 hk (hz.N hMg) (hz.N hMm) (hz.W hW)) ?_
    rintro _ G1 ⟨rfl, hy, hm⟩
    have gG1 := RYX.G hy gG
    refine (show Pv _ _ 50 [some (.ref 69), some (.int l), none, none, none] [.int (ll_b (ll (tok B tn 400) nm (t_g T) (t_m T) k i))] G1 Q from ?_)
    refine Pv.if0 rfl (fun c6 => ?_) (fun c6 => ?_)
    · skip
      replace c6 := of_decide_eq_true c6
      have hk0 : ((tok B tn 400) i).k ≠ 0 := fun e => c5 (Int32.toInt_inj.mp (ht.2.2.2.1.2.2.1.trans (by rw [e]; rfl)))
      obtain ⟨q, j, el⟩ := ll_b0 c6
      have hm2 : G1.1 69 15 = q ∧ (G1.1 69 16).toInt = ((tok B tn 400) j).pl := by rw [el] at hm; exact hm
      refine Pv.lit rfl ?_
      refine Pv.aload rfl rfl ?_
      refine Pv.getI (z := G1.1 69 16) rfl rfl (rfl) ?_
      refine Pv.bin (z := (-2) - (G1.1 69 16)) rfl (rfl) ?_
      exact Pv.ret rfl (by rw [hQ]; exact Or.inr ⟨_, rfl, k, L, q, j, ⟨i, hls, lge_n hk0 el⟩, ll_nz el, hz.yx hy, hm2.1, hm2.2⟩)
    · skip
      replace c6 := of_decide_eq_false c6
      obtain ⟨d, w, x, j, el⟩ := ll_b1 c6
      have hm2 : RTK G1 B tn 400 j ∧ G1.1 69 15 = G.1 69 15 ∧ LIR G1 k d w x := by rw [el] at hm; exact hm
      have n40 := ll_40 el
      refine Pv.aload rfl rfl ?_
      refine Pv.lit rfl ?_
      refine Pv.callV (as := [.ref 69, .int 59]) (rest := []) rfl rfl rfl (r_sign gG1 hm2.1 (x := 59) rfl) ?_
      rintro _ G2 ⟨rfl, hsp⟩
      have gG2 := RLX.G hsp.1 gG1
      have h302 : G2.1 69 30 = Int32.ofNat k := (hsp.1.2.1 30 (by decide) (by decide) (by decide) (by decide) (by decide) (by decide) (by decide) (by decide)).trans ((hy.2.1 30 (by decide) (by decide) (by decide) (by decide) (by decide) (by decide) (by decide) (by decide)).trans h30)
      refine (show Pv _ _ 59 [some (.ref 69), some (.int l), none, none, none] [.int (b2i (decide (tnS ((tok B tn 400) j) 59 = 0)))] G2 Q from ?_)
      refine Pv.if0 rfl (fun c7 => ?_) (fun c7 => ?_)
      · skip
        replace c7 : decide (b2i (decide (tnS ((tok B tn 400) j) 59 = 0)) = 0) = false := by simpa using c7
        replace c7 := of_decide_eq_false c7
        replace c7 := b2n.mp c7
        refine Pv.aload rfl rfl ?_
        refine Pv.dup rfl ?_
        refine Pv.getI (z := Int32.ofNat k) rfl rfl (h302) ?_
        refine Pv.lit rfl ?_
        refine Pv.bin (z := Int32.ofNat (k + 1)) rfl (i_add k 1) ?_
        refine Pv.putI rfl rfl ?_
        refine Pv.goto rfl ?_
        exact ih4 ((k + 1), (j + 1), (upn L k (d, w, x)), (fp G2 69 30 (Int32.ofNat (k + 1)))) (⟨by omega, RZX.p30 (RZX.lx (hz.yx hy) hsp.1), lgs_y hls (hk0_ht ht c5) el (of_decide_eq_true c7), (hsp.2.1 (of_decide_eq_true c7)).1.p30, (fp_ne (Or.inr (by decide))).trans ((hsp.2.1 (of_decide_eq_true c7)).2.trans (hm2.2.1.trans h15)), fp_eq, ((((hL.k hy).s hm2.2.2).l hsp.1).p), LYK.s hK (ll_ok hT.gb el)⟩)
      · skip
        replace c7 : decide (b2i (decide (tnS ((tok B tn 400) j) 59 = 0)) = 0) = true := by simpa using c7
        replace c7 := of_decide_eq_true c7
        replace c7 := b2z.mp c7
        have hk0 : ((tok B tn 400) i).k ≠ 0 := fun e => c5 (Int32.toInt_inj.mp (ht.2.2.2.1.2.2.1.trans (by rw [e]; rfl)))
        refine Pv.lit rfl ?_
        refine Pv.aload rfl rfl ?_
        refine Pv.getI (z := G2.1 69 16) rfl rfl (rfl) ?_
        refine Pv.bin (z := (-2) - (G2.1 69 16)) rfl (rfl) ?_
        exact Pv.ret rfl (by rw [hQ]; exact Or.inr ⟨_, rfl, k, L, 1, j, ⟨i, hls, lge_s hk0 el (of_decide_eq_false c7)⟩, by decide, (hz.yx hy).lx hsp.1, (hsp.2.2 (of_decide_eq_false c7)).1.trans (tnS_1 (of_decide_eq_false c7)), (hsp.2.2 (of_decide_eq_false c7)).2⟩)
