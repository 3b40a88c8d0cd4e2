def kq_X11_without_h : sf_Q := ([(1, 11, 0), (0, 0, 0), (0, 0, 0), (0, 0, 0), (0, 0, 0)], [], some (0, 0, 0), [], [(11, 0, 0), (11, 22, 22), (132, 120, 252), (139, 0, 132)])
set_option maxRecDepth 100000 in
set_option maxHeartbeats 4000000 in
theorem ct_X11_without_h : sf_ct kq_X11_without_h Z_X11_without := by
  intro t hp as H hl hj hpre
  match as, hl with
  | [v0, v1, v2, v3, v4], _ =>
    obtain ⟨a0, rfl, ra0⟩ := bs_aR (hj 0 _ rfl)
    obtain rfl := ra0.eq H (p := 69) rfl
    obtain ⟨x1, rfl⟩ := bs_aI (hj 1 _ rfl)
    have rg1 := n_range x1
    obtain ⟨x2, rfl⟩ := bs_aI (hj 2 _ rfl)
    have rg2 := n_range x2
    obtain ⟨x3, rfl⟩ := bs_aI (hj 3 _ rfl)
    have rg3 := n_range x3
    obtain ⟨x4, rfl⟩ := bs_aI (hj 4 _ rfl)
    have rg4 := n_range x4
    clear hpre hj
    have F0 : sf_fr [(11, 0, 0), (11, 22, 22), (132, 120, 252), (139, 0, 132)] t hp t hp := sf_fr_rf
    refine bs_fin (K := kq_X11_without_h) (L := (L_X11_without Z_X11_isPlace Z_X11_isIn Z_X11_tries Z_X11_cell Z_X11_goesOn Z_X11_back)) (nL := 10) (Nat.le_of_ble_eq_true rfl) ?_
    obtain ⟨Q, hQ⟩ : ∃ Q : ab_O → Prop, Q = (fun o => ∃ t', sf_h t' o.2 ∧ sf_fr (kq_X11_without_h).2.2.2.2 t hp t' o.2 ∧ sf_an t' o.2.1 (kq_X11_without_h).2.2.1 o.1 ∧ sf_S (sf_v1 o.1 [.ref 69, .int x1, .int x2, .int x3, .int x4] o.2) (kq_X11_without_h).2.2.2.1) := ⟨_, rfl⟩
    rw [← hQ]
    refine (show Ev (ab_T (L_X11_without Z_X11_isPlace Z_X11_isIn Z_X11_tries Z_X11_cell Z_X11_goesOn Z_X11_back)) 0 ([some (.ref 69), some (.int x1), some (.int x2), some (.int x3), some (.int x4), none, none, none, none, none], [], (0, 0), hp) Q from ?_)
    refine Ev.step (j := 1) (s' := ([some (.ref 69), some (.int x1), some (.int x2), some (.int x3), some (.int x4), none, none, none, none, none], [.ref 69], (0, 0), hp)) rfl rfl ?_
    refine bs_lit (k := 0) rfl rfl fun z1 hz1 => ?_
    refine bs_putI (W := [(11, 0, 0)]) (g := 11) rfl rfl H (bs_R.uq H (g := 11) rfl) (by decide) rfl rfl rfl rfl (Or.inl rfl) (by omega) (by omega) fun hp2 Hhp2 fhp2 rhp2 ehp2 qhp2 nhp2 => ?_
    have Fhp2 := sf_fr_tr F0 (sf_fr_wider (W := [(11, 0, 0), (11, 22, 22), (132, 120, 252), (139, 0, 132)]) rfl fhp2)
    refine Ev.step (j := 6) (s' := ([some (.ref 69), some (.int x1), some (.int x2), some (.int x3), some (.int x4), none, none, none, none, none], [.ref 69], (0, 0), hp2)) rfl rfl ?_
    refine Ev.step (j := 7) (s' := ([some (.ref 69), some (.int x1), some (.int x2), some (.int x3), some (.int x4), none, none, none, none, none], [.int x1, .ref 69], (0, 0), hp2)) rfl rfl ?_
    refine Ev.step (j := 8) (s' := ([some (.ref 69), some (.int x1), some (.int x2), some (.int x3), some (.int x4), none, none, none, none, none], [.int x2, .int x1, .ref 69], (0, 0), hp2)) rfl rfl ?_
    refine Ev.inl (L := (L_X11_isPlace Z_X11_isGood Z_X11_isShore)) (nL := 3) rfl (bs_rcv (g := 11) Hhp2 (bs_R.uq Hhp2 (g := 11) rfl) (by decide) rfl) rfl (Nat.le_of_ble_eq_true rfl) ?_
    generalize hQ3 : (fun (o : ab_O) => Ev _ _ _ _) = Q3
    refine (show Ev (ab_T (L_X11_isPlace Z_X11_isGood Z_X11_isShore)) 0 ([some (.ref 69), some (.int x1), some (.int x2)], [], (0, 0), hp2) Q3 from ?_)
    refine Ev.step (j := 1) (s' := ([some (.ref 69), some (.int x1), some (.int x2)], [.ref 69], (0, 0), hp2)) rfl rfl ?_
    refine Ev.step (j := 2) (s' := ([some (.ref 69), some (.int x1), some (.int x2)], [.int x1, .ref 69], (0, 0), hp2)) rfl rfl ?_
    refine Ev.inl (L := (L_X11_isGood Z_X11_isIn)) (nL := 2) rfl (bs_rcv (g := 11) Hhp2 (bs_R.uq Hhp2 (g := 11) rfl) (by decide) rfl) rfl (Nat.le_of_ble_eq_true rfl) ?_
    generalize hQ4 : (fun (o : ab_O) => Ev _ _ _ _) = Q4
    refine (show Ev (ab_T (L_X11_isGood Z_X11_isIn)) 0 ([some (.ref 69), some (.int x1)], [], (0, 0), hp2) Q4 from ?_)
    refine Ev.step (j := 1) (s' := ([some (.ref 69), some (.int x1)], [.int x1], (0, 0), hp2)) rfl rfl ?_
    refine bs_lit (k := 0) rfl rfl fun z5 hz5 => ?_
    refine Ev.step (j := 3) (s' := ([some (.ref 69), some (.int x1)], [.ref 69, .int z5, .int x1], (0, 0), hp2)) rfl rfl ?_
    refine bs_getU (g := 11) (g1 := 132) rfl rfl Hhp2 (bs_R.uq Hhp2 (g := 11) rfl) (by decide) rfl rfl ?_
    refine bs_lit (k := 0) rfl rfl fun z6 hz6 => ?_
    refine bs_ld (g := 132) 0 0 (0, 6) rfl Hhp2 (bs_R.uq Hhp2 (g := 132) rfl) (by decide) rfl (by decide) (by decide) rfl (by decide) (by omega) (by omega) fun z7 hz7 lz7 gz7 => ?_
    dsimp only at lz7 gz7
    replace hz7 := bs_at hz7 (show z6.toInt.toNat = 0 by omega)
    refine bs_lit (k := 1) rfl rfl fun z8 hz8 => ?_
    first | (refine bs_sub rfl (by omega) (by omega) fun z9 hz9 => ?_) | (refine bs_any rfl fun z9 => ?_)
    have rz9 := n_range z9
    refine Ev.inlS (L := L_X11_isIn) (nL := 3) rfl rfl (Nat.le_of_ble_eq_true rfl) ?_
    generalize hQ10 : (fun (o : ab_O) => Ev _ _ _ _) = Q10
    refine (show Ev (ab_T L_X11_isIn) 0 ([some (.int x1), some (.int z5), some (.int z9)], [], (0, 0), hp2) Q10 from ?_)
    refine Ev.step (j := 1) (s' := ([some (.int x1), some (.int z5), some (.int z9)], [.int x1], (0, 0), hp2)) rfl rfl ?_
    refine Ev.step (j := 2) (s' := ([some (.int x1), some (.int z5), some (.int z9)], [.int z5, .int x1], (0, 0), hp2)) rfl rfl ?_
    refine bs_lt rfl (fun c11 => ?_) (fun c11 => ?_)
    · skip
      refine bs_lit (k := 0) rfl rfl fun z12 hz12 => ?_
      refine bs_zret rfl rfl (by omega) (by omega) ?_
      rw [← hQ10]
      refine (show Ev _ 13 ([some (.ref 69), some (.int x1)], [.int z12], (0, 0), hp2) _ from ?_)
      refine bs_zret rfl rfl (by omega) (by omega) ?_
      rw [← hQ4]
      refine (show Ev _ 5 ([some (.ref 69), some (.int x1), some (.int x2)], [.int z12], (0, 0), hp2) _ from ?_)
      refine bs_ifeq rfl (fun c13 => ?_) (fun c13 => ?_)
      · skip
        refine bs_lit (k := 0) rfl rfl fun z14 hz14 => ?_
        refine bs_zret rfl rfl (by omega) (by omega) ?_
        rw [← hQ3]
        refine (show Ev _ 11 ([some (.ref 69), some (.int x1), some (.int x2), some (.int x3), some (.int x4), none, none, none, none, none], [.int z14], (0, 0), hp2) _ from ?_)
        refine bs_ifeq rfl (fun c15 => ?_) (fun c15 => ?_)
        · skip
          refine bs_lit (k := -1) rfl rfl fun z16 hz16 => ?_
          exact Ev.ret rfl rfl (by rw [hQ]; exact ⟨t, Hhp2, Fhp2, bs_an0, sf_S_nil⟩)
        · exfalso; omega
      · exfalso; omega
    · skip
      refine Ev.step (j := 6) (s' := ([some (.int x1), some (.int z5), some (.int z9)], [.int x1], (0, 0), hp2)) rfl rfl ?_
      refine Ev.step (j := 7) (s' := ([some (.int x1), some (.int z5), some (.int z9)], [.int z9, .int x1], (0, 0), hp2)) rfl rfl ?_
      refine bs_gt rfl (fun c17 => ?_) (fun c17 => ?_)
      · skip
        refine bs_lit (k := 0) rfl rfl fun z18 hz18 => ?_
        refine bs_zret rfl rfl (by omega) (by omega) ?_
        rw [← hQ10]
        refine (show Ev _ 13 ([some (.ref 69), some (.int x1)], [.int z18], (0, 0), hp2) _ from ?_)
        refine bs_zret rfl rfl (by omega) (by omega) ?_
        rw [← hQ4]
        refine (show Ev _ 5 ([some (.ref 69), some (.int x1), some (.int x2)], [.int z18], (0, 0), hp2) _ from ?_)
        refine bs_ifeq rfl (fun c19 => ?_) (fun c19 => ?_)
        · skip
          refine bs_lit (k := 0) rfl rfl fun z20 hz20 => ?_
          refine bs_zret rfl rfl (by omega) (by omega) ?_
          rw [← hQ3]
          refine (show Ev _ 11 ([some (.ref 69), some (.int x1), some (.int x2), some (.int x3), some (.int x4), none, none, none, none, none], [.int z20], (0, 0), hp2) _ from ?_)
          refine bs_ifeq rfl (fun c21 => ?_) (fun c21 => ?_)
          · skip
            refine bs_lit (k := -1) rfl rfl fun z22 hz22 => ?_
            exact Ev.ret rfl rfl (by rw [hQ]; exact ⟨t, Hhp2, Fhp2, bs_an0, sf_S_nil⟩)
          · exfalso; omega
        · exfalso; omega
      · skip
        refine bs_lit (k := 1) rfl rfl fun z23 hz23 => ?_
        refine Ev.step (j := 15) (s' := ([some (.int x1), some (.int z5), some (.int z9)], [.int z23], (0, 0), hp2)) rfl rfl ?_
        refine bs_zret rfl rfl (by omega) (by omega) ?_
        rw [← hQ10]
        refine (show Ev _ 13 ([some (.ref 69), some (.int x1)], [.int z23], (0, 0), hp2) _ from ?_)
        refine bs_zret rfl rfl (by omega) (by omega) ?_
        rw [← hQ4]
        refine (show Ev _ 5 ([some (.ref 69), some (.int x1), some (.int x2)], [.int z23], (0, 0), hp2) _ from ?_)
        refine bs_ifeq rfl (fun c24 => ?_) (fun c24 => ?_)
        · exfalso; omega
        · skip
          refine Ev.step (j := 9) (s' := ([some (.ref 69), some (.int x1), some (.int x2)], [.ref 69], (0, 0), hp2)) rfl rfl ?_
          refine Ev.step (j := 10) (s' := ([some (.ref 69), some (.int x1), some (.int x2)], [.int x2, .ref 69], (0, 0), hp2)) rfl rfl ?_
          refine Ev.inl (L := (L_X11_isShore Z_X11_isIn)) (nL := 2) rfl (bs_rcv (g := 11) Hhp2 (bs_R.uq Hhp2 (g := 11) rfl) (by decide) rfl) rfl (Nat.le_of_ble_eq_true rfl) ?_
          generalize hQ25 : (fun (o : ab_O) => Ev _ _ _ _) = Q25
          refine (show Ev (ab_T (L_X11_isShore Z_X11_isIn)) 0 ([some (.ref 69), some (.int x2)], [], (0, 0), hp2) Q25 from ?_)
          refine Ev.step (j := 1) (s' := ([some (.ref 69), some (.int x2)], [.int x2], (0, 0), hp2)) rfl rfl ?_
          refine bs_lit (k := 0) rfl rfl fun z26 hz26 => ?_
          refine bs_lit (k := 1) rfl rfl fun z27 hz27 => ?_
          refine Ev.inlS (L := L_X11_isIn) (nL := 3) rfl rfl (Nat.le_of_ble_eq_true rfl) ?_
          generalize hQ28 : (fun (o : ab_O) => Ev _ _ _ _) = Q28
          refine (show Ev (ab_T L_X11_isIn) 0 ([some (.int x2), some (.int z26), some (.int z27)], [], (0, 0), hp2) Q28 from ?_)
          refine Ev.step (j := 1) (s' := ([some (.int x2), some (.int z26), some (.int z27)], [.int x2], (0, 0), hp2)) rfl rfl ?_
          refine Ev.step (j := 2) (s' := ([some (.int x2), some (.int z26), some (.int z27)], [.int z26, .int x2], (0, 0), hp2)) rfl rfl ?_
          refine bs_lt rfl (fun c29 => ?_) (fun c29 => ?_)
          · skip
            refine bs_lit (k := 0) rfl rfl fun z30 hz30 => ?_
            refine bs_zret rfl rfl (by omega) (by omega) ?_
            rw [← hQ28]
            refine (show Ev _ 6 ([some (.ref 69), some (.int x2)], [.int z30], (0, 0), hp2) _ from ?_)
            refine bs_zret rfl rfl (by omega) (by omega) ?_
            rw [← hQ25]
            refine (show Ev _ 13 ([some (.ref 69), some (.int x1), some (.int x2)], [.int z30], (0, 0), hp2) _ from ?_)
            refine bs_ifeq rfl (fun c31 => ?_) (fun c31 => ?_)
            · skip
              refine bs_lit (k := 0) rfl rfl fun z32 hz32 => ?_
              refine bs_zret rfl rfl (by omega) (by omega) ?_
              rw [← hQ3]
              refine (show Ev _ 11 ([some (.ref 69), some (.int x1), some (.int x2), some (.int x3), some (.int x4), none, none, none, none, none], [.int z32], (0, 0), hp2) _ from ?_)
              refine bs_ifeq rfl (fun c33 => ?_) (fun c33 => ?_)
              · skip
                refine bs_lit (k := -1) rfl rfl fun z34 hz34 => ?_
                exact Ev.ret rfl rfl (by rw [hQ]; exact ⟨t, Hhp2, Fhp2, bs_an0, sf_S_nil⟩)
              · exfalso; omega
            · exfalso; omega
          · skip
            refine Ev.step (j := 6) (s' := ([some (.int x2), some (.int z26), some (.int z27)], [.int x2], (0, 0), hp2)) rfl rfl ?_
            refine Ev.step (j := 7) (s' := ([some (.int x2), some (.int z26), some (.int z27)], [.int z27, .int x2], (0, 0), hp2)) rfl rfl ?_
            refine bs_gt rfl (fun c35 => ?_) (fun c35 => ?_)
            · skip
              refine bs_lit (k := 0) rfl rfl fun z36 hz36 => ?_
              refine bs_zret rfl rfl (by omega) (by omega) ?_
              rw [← hQ28]
              refine (show Ev _ 6 ([some (.ref 69), some (.int x2)], [.int z36], (0, 0), hp2) _ from ?_)
              refine bs_zret rfl rfl (by omega) (by omega) ?_
              rw [← hQ25]
              refine (show Ev _ 13 ([some (.ref 69), some (.int x1), some (.int x2)], [.int z36], (0, 0), hp2) _ from ?_)
              refine bs_ifeq rfl (fun c37 => ?_) (fun c37 => ?_)
              · skip
                refine bs_lit (k := 0) rfl rfl fun z38 hz38 => ?_
                refine bs_zret rfl rfl (by omega) (by omega) ?_
                rw [← hQ3]
                refine (show Ev _ 11 ([some (.ref 69), some (.int x1), some (.int x2), some (.int x3), some (.int x4), none, none, none, none, none], [.int z38], (0, 0), hp2) _ from ?_)
                refine bs_ifeq rfl (fun c39 => ?_) (fun c39 => ?_)
                · skip
                  refine bs_lit (k := -1) rfl rfl fun z40 hz40 => ?_
                  exact Ev.ret rfl rfl (by rw [hQ]; exact ⟨t, Hhp2, Fhp2, bs_an0, sf_S_nil⟩)
                · exfalso; omega
              · exfalso; omega
            · skip
              refine bs_lit (k := 1) rfl rfl fun z41 hz41 => ?_
              refine Ev.step (j := 15) (s' := ([some (.int x2), some (.int z26), some (.int z27)], [.int z41], (0, 0), hp2)) rfl rfl ?_
              refine bs_zret rfl rfl (by omega) (by omega) ?_
              rw [← hQ28]
              refine (show Ev _ 6 ([some (.ref 69), some (.int x2)], [.int z41], (0, 0), hp2) _ from ?_)
              refine bs_zret rfl rfl (by omega) (by omega) ?_
              rw [← hQ25]
              refine (show Ev _ 13 ([some (.ref 69), some (.int x1), some (.int x2)], [.int z41], (0, 0), hp2) _ from ?_)
              refine bs_ifeq rfl (fun c42 => ?_) (fun c42 => ?_)
              · exfalso; omega
              · skip
                refine bs_lit (k := 1) rfl rfl fun z43 hz43 => ?_
                refine Ev.step (j := 21) (s' := ([some (.ref 69), some (.int x1), some (.int x2)], [.int z43], (0, 0), hp2)) rfl rfl ?_
                refine bs_zret rfl rfl (by omega) (by omega) ?_
                rw [← hQ3]
                refine (show Ev _ 11 ([some (.ref 69), some (.int x1), some (.int x2), some (.int x3), some (.int x4), none, none, none, none, none], [.int z43], (0, 0), hp2) _ from ?_)
                refine bs_ifeq rfl (fun c44 => ?_) (fun c44 => ?_)
                · exfalso; omega
                · skip
                  refine Ev.step (j := 15) (s' := ([some (.ref 69), some (.int x1), some (.int x2), some (.int x3), some (.int x4), none, none, none, none, none], [.int x3], (0, 0), hp2)) rfl rfl ?_
                  refine bs_lit (k := 1) rfl rfl fun z45 hz45 => ?_
                  refine bs_lit (k := 250) rfl rfl fun z46 hz46 => ?_
                  refine Ev.inlS (L := L_X11_isIn) (nL := 3) rfl rfl (Nat.le_of_ble_eq_true rfl) ?_
                  generalize hQ47 : (fun (o : ab_O) => Ev _ _ _ _) = Q47
                  refine (show Ev (ab_T L_X11_isIn) 0 ([some (.int x3), some (.int z45), some (.int z46)], [], (0, 0), hp2) Q47 from ?_)
                  refine Ev.step (j := 1) (s' := ([some (.int x3), some (.int z45), some (.int z46)], [.int x3], (0, 0), hp2)) rfl rfl ?_
                  refine Ev.step (j := 2) (s' := ([some (.int x3), some (.int z45), some (.int z46)], [.int z45, .int x3], (0, 0), hp2)) rfl rfl ?_
                  refine bs_lt rfl (fun c48 => ?_) (fun c48 => ?_)
                  · skip
                    refine bs_lit (k := 0) rfl rfl fun z49 hz49 => ?_
                    refine bs_zret rfl rfl (by omega) (by omega) ?_
                    rw [← hQ47]
                    refine (show Ev _ 22 ([some (.ref 69), some (.int x1), some (.int x2), some (.int x3), some (.int x4), none, none, none, none, none], [.int z49], (0, 0), hp2) _ from ?_)
                    refine bs_ifeq rfl (fun c50 => ?_) (fun c50 => ?_)
                    · skip
                      refine bs_lit (k := -1) rfl rfl fun z51 hz51 => ?_
                      exact Ev.ret rfl rfl (by rw [hQ]; exact ⟨t, Hhp2, Fhp2, bs_an0, sf_S_nil⟩)
                    · exfalso; omega
                  · skip
                    refine Ev.step (j := 6) (s' := ([some (.int x3), some (.int z45), some (.int z46)], [.int x3], (0, 0), hp2)) rfl rfl ?_
                    refine Ev.step (j := 7) (s' := ([some (.int x3), some (.int z45), some (.int z46)], [.int z46, .int x3], (0, 0), hp2)) rfl rfl ?_
                    refine bs_gt rfl (fun c52 => ?_) (fun c52 => ?_)
                    · skip
                      refine bs_lit (k := 0) rfl rfl fun z53 hz53 => ?_
                      refine bs_zret rfl rfl (by omega) (by omega) ?_
                      rw [← hQ47]
                      refine (show Ev _ 22 ([some (.ref 69), some (.int x1), some (.int x2), some (.int x3), some (.int x4), none, none, none, none, none], [.int z53], (0, 0), hp2) _ from ?_)
                      refine bs_ifeq rfl (fun c54 => ?_) (fun c54 => ?_)
                      · skip
                        refine bs_lit (k := -1) rfl rfl fun z55 hz55 => ?_
                        exact Ev.ret rfl rfl (by rw [hQ]; exact ⟨t, Hhp2, Fhp2, bs_an0, sf_S_nil⟩)
                      · exfalso; omega
                    · skip
                      refine bs_lit (k := 1) rfl rfl fun z56 hz56 => ?_
                      refine Ev.step (j := 15) (s' := ([some (.int x3), some (.int z45), some (.int z46)], [.int z56], (0, 0), hp2)) rfl rfl ?_
                      refine bs_zret rfl rfl (by omega) (by omega) ?_
                      rw [← hQ47]
                      refine (show Ev _ 22 ([some (.ref 69), some (.int x1), some (.int x2), some (.int x3), some (.int x4), none, none, none, none, none], [.int z56], (0, 0), hp2) _ from ?_)
                      refine bs_ifeq rfl (fun c57 => ?_) (fun c57 => ?_)
                      · exfalso; omega
                      · skip
                        refine Ev.step (j := 27) (s' := ([some (.ref 69), some (.int x1), some (.int x2), some (.int x3), some (.int x4), none, none, none, none, none], [.int x4], (0, 0), hp2)) rfl rfl ?_
                        refine bs_lit (k := 1) rfl rfl fun z58 hz58 => ?_
                        refine bs_lit (k := 60) rfl rfl fun z59 hz59 => ?_
                        refine Ev.inlS (L := L_X11_isIn) (nL := 3) rfl rfl (Nat.le_of_ble_eq_true rfl) ?_
                        generalize hQ60 : (fun (o : ab_O) => Ev _ _ _ _) = Q60
                        refine (show Ev (ab_T L_X11_isIn) 0 ([some (.int x4), some (.int z58), some (.int z59)], [], (0, 0), hp2) Q60 from ?_)
                        refine Ev.step (j := 1) (s' := ([some (.int x4), some (.int z58), some (.int z59)], [.int x4], (0, 0), hp2)) rfl rfl ?_
                        refine Ev.step (j := 2) (s' := ([some (.int x4), some (.int z58), some (.int z59)], [.int z58, .int x4], (0, 0), hp2)) rfl rfl ?_
                        refine bs_lt rfl (fun c61 => ?_) (fun c61 => ?_)
                        · skip
                          refine bs_lit (k := 0) rfl rfl fun z62 hz62 => ?_
                          refine bs_zret rfl rfl (by omega) (by omega) ?_
                          rw [← hQ60]
                          refine (show Ev _ 33 ([some (.ref 69), some (.int x1), some (.int x2), some (.int x3), some (.int x4), none, none, none, none, none], [.int z62], (0, 0), hp2) _ from ?_)
                          refine bs_ifne rfl (fun c63 => ?_) (fun c63 => ?_)
                          · exfalso; omega
                          · skip
                            refine bs_lit (k := -1) rfl rfl fun z64 hz64 => ?_
                            exact Ev.ret rfl rfl (by rw [hQ]; exact ⟨t, Hhp2, Fhp2, bs_an0, sf_S_nil⟩)
                        · skip
                          refine Ev.step (j := 6) (s' := ([some (.int x4), some (.int z58), some (.int z59)], [.int x4], (0, 0), hp2)) rfl rfl ?_
                          refine Ev.step (j := 7) (s' := ([some (.int x4), some (.int z58), some (.int z59)], [.int z59, .int x4], (0, 0), hp2)) rfl rfl ?_
                          refine bs_gt rfl (fun c65 => ?_) (fun c65 => ?_)
                          · skip
                            refine bs_lit (k := 0) rfl rfl fun z66 hz66 => ?_
                            refine bs_zret rfl rfl (by omega) (by omega) ?_
                            rw [← hQ60]
                            refine (show Ev _ 33 ([some (.ref 69), some (.int x1), some (.int x2), some (.int x3), some (.int x4), none, none, none, none, none], [.int z66], (0, 0), hp2) _ from ?_)
                            refine bs_ifne rfl (fun c67 => ?_) (fun c67 => ?_)
                            · exfalso; omega
                            · skip
                              refine bs_lit (k := -1) rfl rfl fun z68 hz68 => ?_
                              exact Ev.ret rfl rfl (by rw [hQ]; exact ⟨t, Hhp2, Fhp2, bs_an0, sf_S_nil⟩)
                          · skip
                            refine bs_lit (k := 1) rfl rfl fun z69 hz69 => ?_
                            refine Ev.step (j := 15) (s' := ([some (.int x4), some (.int z58), some (.int z59)], [.int z69], (0, 0), hp2)) rfl rfl ?_
                            refine bs_zret rfl rfl (by omega) (by omega) ?_
                            rw [← hQ60]
                            refine (show Ev _ 33 ([some (.ref 69), some (.int x1), some (.int x2), some (.int x3), some (.int x4), none, none, none, none, none], [.int z69], (0, 0), hp2) _ from ?_)
                            refine bs_ifne rfl (fun c70 => ?_) (fun c70 => ?_)
                            · skip
                              refine Ev.step (j := 39) (s' := ([some (.ref 69), some (.int x1), some (.int x2), some (.int x3), some (.int x4), none, none, none, none, none], [.ref 69], (0, 0), hp2)) rfl rfl ?_
                              refine Ev.inl (L := L_X11_tries) (nL := 2) rfl (bs_rcv (g := 11) Hhp2 (bs_R.uq Hhp2 (g := 11) rfl) (by decide) rfl) rfl (Nat.le_of_ble_eq_true rfl) ?_
                              generalize hQ71 : (fun (o : ab_O) => Ev _ _ _ _) = Q71
                              refine (show Ev (ab_T L_X11_tries) 0 ([some (.ref 69), none], [], (0, 0), hp2) Q71 from ?_)
                              refine bs_lit (k := 0) rfl rfl fun z72 hz72 => ?_
                              refine Ev.step (j := 2) (s' := ([some (.ref 69), some (.int z72)], [], (0, 0), hp2)) rfl rfl ?_
                              refine bs_loop (ι := Int32 × ab_H × (Nat → Nat)) (fun ⟨k73, hp74, t75⟩ => ([some (.ref 69), some (.int k73)], [], (0, 0), hp74)) (fun ⟨k73, hp74, t75⟩ => (sf_h t75 hp74) ∧ (sf_fr [(11, 0, 0), (11, 22, 22), (132, 120, 252), (139, 0, 132)] t hp t75 hp74) ∧ (0 ≤ k73.toInt ∧ k73.toInt ≤ 133) ∧ (∀ j : Nat, (j : Int) < k73.toInt → sf_rd hp74 78 j = sf_rd hp2 71 (120 + j)) ∧ (∀ q : Nat, sf_rd hp74 71 q = sf_rd hp2 71 q)) (fun ⟨k73, hp74, t75⟩ => (133 - k73.toInt).toNat) ?_ (z72, hp2, t) ⟨Hhp2, Fhp2, (by first | omega | assumption), (by first | exact TB | exact fun j hj => absurd hj (by omega)), (by first | exact TC | exact fun q => rfl)⟩
                              rintro ⟨k73, hp74, t75⟩ ⟨Hhp74, Fhp74, i77, i78, i79⟩ ih76
                              refine (show Ev _ 2 ([some (.ref 69), some (.int k73)], [], (0, 0), hp74) _ from ?_)
                              refine Ev.step (j := 3) (s' := ([some (.ref 69), some (.int k73)], [.int k73], (0, 0), hp74)) rfl rfl ?_
                              refine bs_lit (k := 133) rfl rfl fun z80 hz80 => ?_
                              refine bs_ge rfl (fun c81 => ?_) (fun c81 => ?_)
                              · skip
                                refine Ev.ret rfl rfl ?_
                                rw [← hQ71]
                                refine (show Ev _ 42 ([some (.ref 69), some (.int x1), some (.int x2), some (.int x3), some (.int x4), none, none, none, none, none], [], (0, 0), hp74) _ from ?_)
                                refine Ev.step (j := 43) (s' := ([some (.ref 69), some (.int x1), some (.int x2), some (.int x3), some (.int x4), none, none, none, none, none], [.int x1], (0, 0), hp74)) rfl rfl ?_
                                refine Ev.step (j := 44) (s' := ([some (.ref 69), some (.int x1), some (.int x2), some (.int x3), some (.int x4), none, none, none, none, none], [.int x2, .int x1], (0, 0), hp74)) rfl rfl ?_
                                refine Ev.inlS (L := L_X11_cell) (nL := 2) rfl rfl (Nat.le_of_ble_eq_true rfl) ?_
                                generalize hQ82 : (fun (o : ab_O) => Ev _ _ _ _) = Q82
                                refine (show Ev (ab_T L_X11_cell) 0 ([some (.int x1), some (.int x2)], [], (0, 0), hp74) Q82 from ?_)
                                refine bs_lit (k := 2) rfl rfl fun z83 hz83 => ?_
                                refine Ev.step (j := 2) (s' := ([some (.int x1), some (.int x2)], [.int x1, .int z83], (0, 0), hp74)) rfl rfl ?_
                                refine bs_mul (2) rfl (Or.inl hz83) (by rw [hz83]; omega) (by rw [hz83]; omega) fun z84 hz84 => ?_
                                rw [hz83] at hz84
                                refine Ev.step (j := 4) (s' := ([some (.int x1), some (.int x2)], [.int x2, .int z84], (0, 0), hp74)) rfl rfl ?_
                                first | (refine bs_add rfl (by omega) (by omega) fun z85 hz85 => ?_) | (refine bs_any rfl fun z85 => ?_)
                                have rz85 := n_range z85
                                refine Ev.ret rfl rfl ?_
                                rw [← hQ82]
                                refine (show Ev _ 47 ([some (.ref 69), some (.int x1), some (.int x2), some (.int x3), some (.int x4), none, none, none, none, none], [.int z85], (0, 0), hp74) _ from ?_)
                                refine Ev.step (j := 49) (s' := ([some (.ref 69), some (.int x1), some (.int x2), some (.int x3), some (.int x4), some (.int z85), none, none, none, none], [], (0, 0), hp74)) rfl rfl ?_
                                refine Ev.step (j := 50) (s' := ([some (.ref 69), some (.int x1), some (.int x2), some (.int x3), some (.int x4), some (.int z85), none, none, none, none], [.ref 69], (0, 0), hp74)) rfl rfl ?_
                                refine bs_getU (g := 11) (g1 := 132) rfl rfl Hhp74 (bs_R.uq Hhp74 (g := 11) rfl) (by decide) rfl rfl ?_
                                refine bs_lit (k := 160) rfl rfl fun z86 hz86 => ?_
                                refine Ev.step (j := 58) (s' := ([some (.ref 69), some (.int x1), some (.int x2), some (.int x3), some (.int x4), some (.int z85), none, none, none, none], [.int z85, .int z86, .ref 71], (0, 0), hp74)) rfl rfl ?_
                                first | (refine bs_add rfl (by omega) (by omega) fun z87 hz87 => ?_) | (refine bs_any rfl fun z87 => ?_)
                                have rz87 := n_range z87
                                refine bs_ld (g := 132) 160 171 (-2147483648, 2147483647) rfl Hhp74 (bs_R.uq Hhp74 (g := 132) rfl) (by decide) rfl (by decide) (by decide) rfl (by decide) (by omega) (by omega) fun z88 hz88 lz88 gz88 => ?_
                                dsimp only at lz88 gz88
                                refine Ev.step (j := 62) (s' := ([some (.ref 69), some (.int x1), some (.int x2), some (.int x3), some (.int x4), some (.int z85), some (.int z88), none, none, none], [], (0, 0), hp74)) rfl rfl ?_
                                refine Ev.step (j := 63) (s' := ([some (.ref 69), some (.int x1), some (.int x2), some (.int x3), some (.int x4), some (.int z85), some (.int z88), none, none, none], [.ref 69], (0, 0), hp74)) rfl rfl ?_
                                refine bs_getU (g := 11) (g1 := 132) rfl rfl Hhp74 (bs_R.uq Hhp74 (g := 11) rfl) (by decide) rfl rfl ?_
                                refine bs_lit (k := 124) rfl rfl fun z89 hz89 => ?_
                                refine Ev.step (j := 70) (s' := ([some (.ref 69), some (.int x1), some (.int x2), some (.int x3), some (.int x4), some (.int z85), some (.int z88), none, none, none], [.int z85, .int z89, .ref 71], (0, 0), hp74)) rfl rfl ?_
                                first | (refine bs_add rfl (by omega) (by omega) fun z90 hz90 => ?_) | (refine bs_any rfl fun z90 => ?_)
                                have rz90 := n_range z90
                                refine bs_ld (g := 132) 124 135 (0, 999) rfl Hhp74 (bs_R.uq Hhp74 (g := 132) rfl) (by decide) rfl (by decide) (by decide) rfl (by decide) (by omega) (by omega) fun z91 hz91 lz91 gz91 => ?_
                                dsimp only at lz91 gz91
                                refine Ev.step (j := 74) (s' := ([some (.ref 69), some (.int x1), some (.int x2), some (.int x3), some (.int x4), some (.int z85), some (.int z88), some (.int z91), none, none], [], (0, 0), hp74)) rfl rfl ?_
                                have A1 : sf_rd hp74 71 (120 + (z85.toInt.toNat + 4)) = some z91.toInt := bs_at hz91 (by omega)
                                have A2 : sf_rd hp74 78 (z85.toInt.toNat + 4) = some z91.toInt := (i78 _ (by omega)).trans ((i79 _).symm.trans A1)
                                refine bs_lit (k := -1) rfl rfl fun z92 hz92 => ?_
                                refine Ev.step (j := 77) (s' := ([some (.ref 69), some (.int x1), some (.int x2), some (.int x3), some (.int x4), some (.int z85), some (.int z88), some (.int z91), some (.int z92), none], [], (0, 0), hp74)) rfl rfl ?_
                                refine bs_lit (k := 0) rfl rfl fun z93 hz93 => ?_
                                refine Ev.step (j := 80) (s' := ([some (.ref 69), some (.int x1), some (.int x2), some (.int x3), some (.int x4), some (.int z85), some (.int z88), some (.int z91), some (.int z92), some (.int z93)], [], (0, 0), hp74)) rfl rfl ?_
                                refine bs_loop (ι := Int32 × Int32 × ab_H × (Nat → Nat)) (fun ⟨k94, k95, hp96, t97⟩ => ([some (.ref 69), some (.int x1), some (.int x2), some (.int x3), some (.int x4), some (.int z85), some (.int z88), some (.int z91), some (.int k94), some (.int k95)], [], (0, 0), hp96)) (fun ⟨k94, k95, hp96, t97⟩ => (sf_h t97 hp96) ∧ (sf_fr [(11, 0, 0), (11, 22, 22), (132, 120, 252), (139, 0, 132)] t hp t97 hp96) ∧ (0 ≤ k95.toInt ∧ k95.toInt ≤ z91.toInt + 1) ∧ (sf_rd hp96 78 (z85.toInt.toNat + 4) = some z91.toInt) ∧ (sf_rd hp96 71 (120 + (z85.toInt.toNat + 4)) = some z91.toInt)) (fun ⟨k94, k95, hp96, t97⟩ => (z91.toInt + 1 - k95.toInt).toNat) ?_ (z92, z93, hp74, t75) ⟨Hhp74, Fhp74, (by first | omega | assumption), (by first | exact B1 | exact A2), (by first | exact B2 | exact A1)⟩
                                rintro ⟨k94, k95, hp96, t97⟩ ⟨Hhp96, Fhp96, i99, i100, i101⟩ ih98
                                refine (show Ev _ 80 ([some (.ref 69), some (.int x1), some (.int x2), some (.int x3), some (.int x4), some (.int z85), some (.int z88), some (.int z91), some (.int k94), some (.int k95)], [], (0, 0), hp96) _ from ?_)
                                refine Ev.step (j := 82) (s' := ([some (.ref 69), some (.int x1), some (.int x2), some (.int x3), some (.int x4), some (.int z85), some (.int z88), some (.int z91), some (.int k94), some (.int k95)], [.int k95], (0, 0), hp96)) rfl rfl ?_
                                refine Ev.step (j := 84) (s' := ([some (.ref 69), some (.int x1), some (.int x2), some (.int x3), some (.int x4), some (.int z85), some (.int z88), some (.int z91), some (.int k94), some (.int k95)], [.int z91, .int k95], (0, 0), hp96)) rfl rfl ?_
                                refine bs_gt rfl (fun c102 => ?_) (fun c102 => ?_)
                                · skip
                                  refine Ev.step (j := 148) (s' := ([some (.ref 69), some (.int x1), some (.int x2), some (.int x3), some (.int x4), some (.int z85), some (.int z88), some (.int z91), some (.int k94), some (.int k95)], [.int k94], (0, 0), hp96)) rfl rfl ?_
                                  exact Ev.ret rfl rfl (by rw [hQ]; exact ⟨t97, Hhp96, Fhp96, bs_an0, sf_S_nil⟩)
                                · skip
                                  refine Ev.step (j := 89) (s' := ([some (.ref 69), some (.int x1), some (.int x2), some (.int x3), some (.int x4), some (.int z85), some (.int z88), some (.int z91), some (.int k94), some (.int k95)], [.int k94], (0, 0), hp96)) rfl rfl ?_
                                  refine bs_ifge rfl (fun c103 => ?_) (fun c103 => ?_)
                                  · skip
                                    refine Ev.step (j := 148) (s' := ([some (.ref 69), some (.int x1), some (.int x2), some (.int x3), some (.int x4), some (.int z85), some (.int z88), some (.int z91), some (.int k94), some (.int k95)], [.int k94], (0, 0), hp96)) rfl rfl ?_
                                    exact Ev.ret rfl rfl (by rw [hQ]; exact ⟨t97, Hhp96, Fhp96, bs_an0, sf_S_nil⟩)
                                  · skip
                                    refine Ev.step (j := 93) (s' := ([some (.ref 69), some (.int x1), some (.int x2), some (.int x3), some (.int x4), some (.int z85), some (.int z88), some (.int z91), some (.int k94), some (.int k95)], [.ref 69], (0, 0), hp96)) rfl rfl ?_
                                    refine bs_getU (g := 11) (g1 := 132) rfl rfl Hhp96 (bs_R.uq Hhp96 (g := 11) rfl) (by decide) rfl rfl ?_
                                    refine bs_lit (k := 124) rfl rfl fun z104 hz104 => ?_
                                    refine Ev.step (j := 100) (s' := ([some (.ref 69), some (.int x1), some (.int x2), some (.int x3), some (.int x4), some (.int z85), some (.int z88), some (.int z91), some (.int k94), some (.int k95)], [.int z85, .int z104, .ref 71], (0, 0), hp96)) rfl rfl ?_
                                    first | (refine bs_add rfl (by omega) (by omega) fun z105 hz105 => ?_) | (refine bs_any rfl fun z105 => ?_)
                                    have rz105 := n_range z105
                                    refine Ev.step (j := 102) (s' := ([some (.ref 69), some (.int x1), some (.int x2), some (.int x3), some (.int x4), some (.int z85), some (.int z88), some (.int z91), some (.int k94), some (.int k95)], [.int z105, .ref 71, .int z105, .ref 71], (0, 0), hp96)) rfl rfl ?_
                                    refine bs_ld (g := 132) 124 135 (0, 999) rfl Hhp96 (bs_R.uq Hhp96 (g := 132) rfl) (by decide) rfl (by decide) (by decide) rfl (by decide) (by omega) (by omega) fun z106 hz106 lz106 gz106 => ?_
                                    dsimp only at lz106 gz106
                                    have ew : z106.toInt = z91.toInt := Option.some.inj ((bs_at hz106 (by omega)).symm.trans i101)
                                    refine Ev.step (j := 105) (s' := ([some (.ref 69), some (.int x1), some (.int x2), some (.int x3), some (.int x4), some (.int z85), some (.int z88), some (.int z91), some (.int k94), some (.int k95)], [.int k95, .int z106, .int z105, .ref 71], (0, 0), hp96)) rfl rfl ?_
                                    first | (refine bs_sub rfl (by omega) (by omega) fun z107 hz107 => ?_) | (refine bs_any rfl fun z107 => ?_)
                                    have rz107 := n_range z107
                                    refine bs_st (W := [(132, 124, 135)]) (g := 132) 124 135 (0, 999) rfl Hhp96 (bs_R.uq Hhp96 (g := 132) rfl) (by decide) rfl rfl (by decide) rfl rfl (by omega) (by omega) (by dsimp only; omega) (by dsimp only; omega) fun hp108 Hhp108 fhp108 rhp108 ehp108 qhp108 nhp108 => ?_
                                    have Fhp108 := sf_fr_tr Fhp96 (sf_fr_wider (W := [(11, 0, 0), (11, 22, 22), (132, 120, 252), (139, 0, 132)]) rfl fhp108)
                                    refine Ev.step (j := 108) (s' := ([some (.ref 69), some (.int x1), some (.int x2), some (.int x3), some (.int x4), some (.int z85), some (.int z88), some (.int z91), some (.int k94), some (.int k95)], [.ref 69], (0, 0), hp108)) rfl rfl ?_
                                    refine Ev.step (j := 110) (s' := ([some (.ref 69), some (.int x1), some (.int x2), some (.int x3), some (.int x4), some (.int z85), some (.int z88), some (.int z91), some (.int k94), some (.int k95)], [.int x4, .ref 69], (0, 0), hp108)) rfl rfl ?_
                                    refine bs_call (K := kq_X11_goesOn_3d45d6) [.ref 69, .int x4] [] rfl ct_X11_goesOn_3d45d6 Hhp108 rfl rfl rfl (bs_rcv (g := 11) Hhp108 (bs_R.uq Hhp108 (g := 11) rfl) (by decide) rfl) rfl ?_ (sf_S_nil) fun r109 hp110 thp110 Hhp110 fhp110 ahp110 php110 => ?_
                                    · intro q k h
                                      match q, h with
                                      | 0, h => cases h; exact bs_jR (bs_R.uq Hhp108 (g := 11) rfl)
                                      | 1, h => cases h; exact sf_j0
                                      | q + 2, h => cases h
                                    obtain ⟨z111, rfl⟩ := bs_anI ahp110
                                    have rgz111 := n_range z111
                                    have Fhp110 := sf_fr_tr Fhp108 (sf_fr_wider (W := [(11, 0, 0), (11, 22, 22), (132, 120, 252), (139, 0, 132)]) rfl fhp110)
                                    obtain ⟨uz111, vz111⟩ := bs_s1 (x := z111.toInt) rfl (php110 _ (List.mem_of_getElem? (i := 0) rfl))
                                    refine (show Ev _ 113 ([some (.ref 69), some (.int x1), some (.int x2), some (.int x3), some (.int x4), some (.int z85), some (.int z88), some (.int z91), some (.int k94), some (.int k95)], [.int z111], (0, 0), hp110) _ from ?_)
                                    refine Ev.step (j := 114) (s' := ([some (.ref 69), some (.int x1), some (.int x2), some (.int x3), some (.int x4), some (.int z85), some (.int z88), some (.int z91), some (.int k94), some (.int k95)], [], (0, 0), hp110)) rfl rfl ?_
                                    refine Ev.step (j := 115) (s' := ([some (.ref 69), some (.int x1), some (.int x2), some (.int x3), some (.int x4), some (.int z85), some (.int z88), some (.int z91), some (.int k94), some (.int k95)], [.ref 69], (0, 0), hp110)) rfl rfl ?_
                                    refine bs_getU (g := 11) (g1 := 132) rfl rfl Hhp110 (bs_R.uq Hhp110 (g := 11) rfl) (by decide) rfl rfl ?_
                                    refine bs_lit (k := 160) rfl rfl fun z112 hz112 => ?_
                                    refine Ev.step (j := 123) (s' := ([some (.ref 69), some (.int x1), some (.int x2), some (.int x3), some (.int x4), some (.int z85), some (.int z88), some (.int z91), some (.int k94), some (.int k95)], [.int z85, .int z112, .ref 71], (0, 0), hp110)) rfl rfl ?_
                                    first | (refine bs_add rfl (by omega) (by omega) fun z113 hz113 => ?_) | (refine bs_any rfl fun z113 => ?_)
                                    have rz113 := n_range z113
                                    refine bs_ld (g := 132) 160 171 (-2147483648, 2147483647) rfl Hhp110 (bs_R.uq Hhp110 (g := 132) rfl) (by decide) rfl (by decide) (by decide) rfl (by decide) (by omega) (by omega) fun z114 hz114 lz114 gz114 => ?_
                                    dsimp only at lz114 gz114
                                    refine Ev.step (j := 127) (s' := ([some (.ref 69), some (.int x1), some (.int x2), some (.int x3), some (.int x4), some (.int z85), some (.int z88), some (.int z91), some (.int k94), some (.int k95)], [.int z88, .int z114], (0, 0), hp110)) rfl rfl ?_
                                    first | (refine bs_sub rfl (by omega) (by omega) fun z115 hz115 => ?_) | (refine bs_any rfl fun z115 => ?_)
                                    have rz115 := n_range z115
                                    refine Ev.step (j := 129) (s' := ([some (.ref 69), some (.int x1), some (.int x2), some (.int x3), some (.int x4), some (.int z85), some (.int z88), some (.int z91), some (.int k94), some (.int k95)], [.int x3, .int z115], (0, 0), hp110)) rfl rfl ?_
                                    refine bs_lt rfl (fun c116 => ?_) (fun c116 => ?_)
                                    · skip
                                      refine Ev.step (j := 137) (s' := ([some (.ref 69), some (.int x1), some (.int x2), some (.int x3), some (.int x4), some (.int z85), some (.int z88), some (.int z91), some (.int k94), some (.int k95)], [.ref 69], (0, 0), hp110)) rfl rfl ?_
                                      refine Ev.inl (L := L_X11_back) (nL := 2) rfl (bs_rcv (g := 11) Hhp110 (bs_R.uq Hhp110 (g := 11) rfl) (by decide) rfl) rfl (Nat.le_of_ble_eq_true rfl) ?_
                                      generalize hQ117 : (fun (o : ab_O) => Ev _ _ _ _) = Q117
                                      refine (show Ev (ab_T L_X11_back) 0 ([some (.ref 69), none], [], (0, 0), hp110) Q117 from ?_)
                                      have B0 : sf_rd hp110 78 (z85.toInt.toNat + 4) = some z91.toInt := (((fhp110.2.2.1 _ (bs_R.uq Hhp108 (g := 139) (p := 78) rfl).1 _ (by rw [(bs_R.uq Hhp108 (g := 139) (p := 78) rfl).2]; rfl)).trans (ehp108 _ _ (Or.inl (by decide))))).trans i100
                                      refine bs_lit (k := 0) rfl rfl fun z118 hz118 => ?_
                                      refine Ev.step (j := 2) (s' := ([some (.ref 69), some (.int z118)], [], (0, 0), hp110)) rfl rfl ?_
                                      refine bs_loop (ι := Int32 × ab_H × (Nat → Nat)) (fun ⟨k119, hp120, t121⟩ => ([some (.ref 69), some (.int k119)], [], (0, 0), hp120)) (fun ⟨k119, hp120, t121⟩ => (sf_h t121 hp120) ∧ (sf_fr [(11, 0, 0), (11, 22, 22), (132, 120, 252), (139, 0, 132)] t hp t121 hp120) ∧ (0 ≤ k119.toInt ∧ k119.toInt ≤ 133) ∧ (∀ j : Nat, (j : Int) < k119.toInt → sf_rd hp120 71 (120 + j) = sf_rd hp110 78 j) ∧ (∀ q : Nat, sf_rd hp120 78 q = sf_rd hp110 78 q)) (fun ⟨k119, hp120, t121⟩ => (133 - k119.toInt).toNat) ?_ (z118, hp110, thp110) ⟨Hhp110, Fhp110, (by first | omega | assumption), (by first | exact TB | exact fun j hj => absurd hj (by omega)), (by first | exact TC | exact fun q => rfl)⟩
                                      rintro ⟨k119, hp120, t121⟩ ⟨Hhp120, Fhp120, i123, i124, i125⟩ ih122
                                      refine (show Ev _ 2 ([some (.ref 69), some (.int k119)], [], (0, 0), hp120) _ from ?_)
                                      refine Ev.step (j := 3) (s' := ([some (.ref 69), some (.int k119)], [.int k119], (0, 0), hp120)) rfl rfl ?_
                                      refine bs_lit (k := 133) rfl rfl fun z126 hz126 => ?_
                                      refine bs_ge rfl (fun c127 => ?_) (fun c127 => ?_)
                                      · skip
                                        refine Ev.ret rfl rfl ?_
                                        rw [← hQ117]
                                        refine (show Ev _ 140 ([some (.ref 69), some (.int x1), some (.int x2), some (.int x3), some (.int x4), some (.int z85), some (.int z88), some (.int z91), some (.int k94), some (.int k95)], [], (0, 0), hp120) _ from ?_)
                                        have B1 : sf_rd hp120 78 (z85.toInt.toNat + 4) = some z91.toInt := (i125 _).trans B0
                                        have B2 : sf_rd hp120 71 (120 + (z85.toInt.toNat + 4)) = some z91.toInt := (i124 _ (by omega)).trans B0
                                        refine bs_iinc (1) rfl rfl rfl rfl (by omega) (by omega) fun z128 hz128 => ?_
                                        refine (show Ev _ 143 ([some (.ref 69), some (.int x1), some (.int x2), some (.int x3), some (.int x4), some (.int z85), some (.int z88), some (.int z91), some (.int k94), some (.int z128)], [], (0, 0), hp120) _ from ?_)
                                        refine Ev.step (j := 80) (s' := ([some (.ref 69), some (.int x1), some (.int x2), some (.int x3), some (.int x4), some (.int z85), some (.int z88), some (.int z91), some (.int k94), some (.int z128)], [], (0, 0), hp120)) rfl rfl ?_
                                        refine ih98 (k94, z128, hp120, t121) ⟨Hhp120, Fhp120, (by first | omega | assumption), (by first | exact B1 | exact A2), (by first | exact B2 | exact A1)⟩ ?_
                                        show (z91.toInt + 1 - z128.toInt).toNat < (z91.toInt + 1 - k95.toInt).toNat
                                        omega
                                      · skip
                                        refine Ev.step (j := 10) (s' := ([some (.ref 69), some (.int k119)], [.ref 69], (0, 0), hp120)) rfl rfl ?_
                                        refine bs_getU (g := 11) (g1 := 132) rfl rfl Hhp120 (bs_R.uq Hhp120 (g := 11) rfl) (by decide) rfl rfl ?_
                                        refine bs_lit (k := 120) rfl rfl fun z129 hz129 => ?_
                                        refine Ev.step (j := 16) (s' := ([some (.ref 69), some (.int k119)], [.int k119, .int z129, .ref 71], (0, 0), hp120)) rfl rfl ?_
                                        first | (refine bs_add rfl (by omega) (by omega) fun z130 hz130 => ?_) | (refine bs_any rfl fun z130 => ?_)
                                        have rz130 := n_range z130
                                        refine Ev.step (j := 18) (s' := ([some (.ref 69), some (.int k119)], [.ref 69, .int z130, .ref 71], (0, 0), hp120)) rfl rfl ?_
                                        refine bs_getU (g := 11) (g1 := 139) rfl rfl Hhp120 (bs_R.uq Hhp120 (g := 11) rfl) (by decide) rfl rfl ?_
                                        refine Ev.step (j := 22) (s' := ([some (.ref 69), some (.int k119)], [.int k119, .ref 78, .int z130, .ref 71], (0, 0), hp120)) rfl rfl ?_
                                        refine bs_ldK (g := 139) rfl Hhp120 (bs_R.uq Hhp120 (g := 139) rfl) (by decide) rfl (by omega) (by show _ < ((133 : Nat) : Int); omega) fun z131 hz131 kz131 => ?_
                                        have rz131 := n_range z131
                                        have kv : ∀ n, sf_v t121 n (sf_e (sf_A 132).2.2 z130.toInt.toNat) (.int z131) := fun n => by
                                          have h1 := sg_139 k119.toInt.toNat (by omega)
                                          have h2 := sg_132 (z130.toInt.toNat - 120) (by omega)
                                          rw [show 120 + (z130.toInt.toNat - 120) = z130.toInt.toNat by omega] at h2
                                          have h3 := kz131 n
                                          rw [h1] at h3
                                          rw [h2]
                                          have e9 : 120 + (z130.toInt.toNat - 120) % 133 = 120 + k119.toInt.toNat % 133 := by omega
                                          rw [e9]
                                          exact h3
                                        refine bs_stK (W := [(132, 120, 252)]) (g := 132) 120 252 rfl Hhp120 (bs_R.uq Hhp120 (g := 132) rfl) (by decide) rfl (by decide) rfl rfl (by omega) (by omega) (kv _) fun hp132 Hhp132 fhp132 rhp132 ehp132 qhp132 nhp132 => ?_
                                        clear kv
                                        have Fhp132 := sf_fr_tr Fhp120 (sf_fr_wider (W := [(11, 0, 0), (11, 22, 22), (132, 120, 252), (139, 0, 132)]) rfl fhp132)
                                        refine bs_iinc (1) rfl rfl rfl rfl (by omega) (by omega) fun z133 hz133 => ?_
                                        refine (show Ev _ 27 ([some (.ref 69), some (.int z133)], [], (0, 0), hp132) _ from ?_)
                                        refine Ev.step (j := 2) (s' := ([some (.ref 69), some (.int z133)], [], (0, 0), hp132)) rfl rfl ?_
                                        have TB : ∀ j : Nat, (j : Int) < z133.toInt → sf_rd hp132 71 (120 + j) = sf_rd hp110 78 j := by
                                          intro j hj
                                          by_cases hji : (j : Int) < k119.toInt
                                          · exact ((ehp132 _ _ (Or.inr (by omega)))).trans (i124 j hji)
                                          · have e : j = k119.toInt.toNat := by omega
                                            subst e
                                            exact (bs_at rhp132 (by omega)).trans ((bs_at hz131 (by omega)).symm.trans (i125 _))
                                        have TC : ∀ q : Nat, sf_rd hp132 78 q = sf_rd hp110 78 q := fun q => ((ehp132 _ _ (Or.inl (by decide)))).trans (i125 q)
                                        refine ih122 (z133, hp132, t121) ⟨Hhp132, Fhp132, (by first | omega | assumption), (by first | exact TB | exact fun j hj => absurd hj (by omega)), (by first | exact TC | exact fun q => rfl)⟩ ?_
                                        show (133 - z133.toInt).toNat < (133 - k119.toInt).toNat
                                        omega
                                    · skip
                                      refine Ev.step (j := 134) (s' := ([some (.ref 69), some (.int x1), some (.int x2), some (.int x3), some (.int x4), some (.int z85), some (.int z88), some (.int z91), some (.int k94), some (.int k95)], [.int k95], (0, 0), hp110)) rfl rfl ?_
                                      refine Ev.step (j := 136) (s' := ([some (.ref 69), some (.int x1), some (.int x2), some (.int x3), some (.int x4), some (.int z85), some (.int z88), some (.int z91), some (.int k95), some (.int k95)], [], (0, 0), hp110)) rfl rfl ?_
                                      refine Ev.step (j := 137) (s' := ([some (.ref 69), some (.int x1), some (.int x2), some (.int x3), some (.int x4), some (.int z85), some (.int z88), some (.int z91), some (.int k95), some (.int k95)], [.ref 69], (0, 0), hp110)) rfl rfl ?_
                                      refine Ev.inl (L := L_X11_back) (nL := 2) rfl (bs_rcv (g := 11) Hhp110 (bs_R.uq Hhp110 (g := 11) rfl) (by decide) rfl) rfl (Nat.le_of_ble_eq_true rfl) ?_
                                      generalize hQ134 : (fun (o : ab_O) => Ev _ _ _ _) = Q134
                                      refine (show Ev (ab_T L_X11_back) 0 ([some (.ref 69), none], [], (0, 0), hp110) Q134 from ?_)
                                      have B0 : sf_rd hp110 78 (z85.toInt.toNat + 4) = some z91.toInt := (((fhp110.2.2.1 _ (bs_R.uq Hhp108 (g := 139) (p := 78) rfl).1 _ (by rw [(bs_R.uq Hhp108 (g := 139) (p := 78) rfl).2]; rfl)).trans (ehp108 _ _ (Or.inl (by decide))))).trans i100
                                      refine bs_lit (k := 0) rfl rfl fun z135 hz135 => ?_
                                      refine Ev.step (j := 2) (s' := ([some (.ref 69), some (.int z135)], [], (0, 0), hp110)) rfl rfl ?_
                                      refine bs_loop (ι := Int32 × ab_H × (Nat → Nat)) (fun ⟨k136, hp137, t138⟩ => ([some (.ref 69), some (.int k136)], [], (0, 0), hp137)) (fun ⟨k136, hp137, t138⟩ => (sf_h t138 hp137) ∧ (sf_fr [(11, 0, 0), (11, 22, 22), (132, 120, 252), (139, 0, 132)] t hp t138 hp137) ∧ (0 ≤ k136.toInt ∧ k136.toInt ≤ 133) ∧ (∀ j : Nat, (j : Int) < k136.toInt → sf_rd hp137 71 (120 + j) = sf_rd hp110 78 j) ∧ (∀ q : Nat, sf_rd hp137 78 q = sf_rd hp110 78 q)) (fun ⟨k136, hp137, t138⟩ => (133 - k136.toInt).toNat) ?_ (z135, hp110, thp110) ⟨Hhp110, Fhp110, (by first | omega | assumption), (by first | exact TB | exact fun j hj => absurd hj (by omega)), (by first | exact TC | exact fun q => rfl)⟩
                                      rintro ⟨k136, hp137, t138⟩ ⟨Hhp137, Fhp137, i140, i141, i142⟩ ih139
                                      refine (show Ev _ 2 ([some (.ref 69), some (.int k136)], [], (0, 0), hp137) _ from ?_)
                                      refine Ev.step (j := 3) (s' := ([some (.ref 69), some (.int k136)], [.int k136], (0, 0), hp137)) rfl rfl ?_
                                      refine bs_lit (k := 133) rfl rfl fun z143 hz143 => ?_
                                      refine bs_ge rfl (fun c144 => ?_) (fun c144 => ?_)
                                      · skip
                                        refine Ev.ret rfl rfl ?_
                                        rw [← hQ134]
                                        refine (show Ev _ 140 ([some (.ref 69), some (.int x1), some (.int x2), some (.int x3), some (.int x4), some (.int z85), some (.int z88), some (.int z91), some (.int k95), some (.int k95)], [], (0, 0), hp137) _ from ?_)
                                        have B1 : sf_rd hp137 78 (z85.toInt.toNat + 4) = some z91.toInt := (i142 _).trans B0
                                        have B2 : sf_rd hp137 71 (120 + (z85.toInt.toNat + 4)) = some z91.toInt := (i141 _ (by omega)).trans B0
                                        refine bs_iinc (1) rfl rfl rfl rfl (by omega) (by omega) fun z145 hz145 => ?_
                                        refine (show Ev _ 143 ([some (.ref 69), some (.int x1), some (.int x2), some (.int x3), some (.int x4), some (.int z85), some (.int z88), some (.int z91), some (.int k95), some (.int z145)], [], (0, 0), hp137) _ from ?_)
                                        refine Ev.step (j := 80) (s' := ([some (.ref 69), some (.int x1), some (.int x2), some (.int x3), some (.int x4), some (.int z85), some (.int z88), some (.int z91), some (.int k95), some (.int z145)], [], (0, 0), hp137)) rfl rfl ?_
                                        refine ih98 (k95, z145, hp137, t138) ⟨Hhp137, Fhp137, (by first | omega | assumption), (by first | exact B1 | exact A2), (by first | exact B2 | exact A1)⟩ ?_
                                        show (z91.toInt + 1 - z145.toInt).toNat < (z91.toInt + 1 - k95.toInt).toNat
                                        omega
                                      · skip
                                        refine Ev.step (j := 10) (s' := ([some (.ref 69), some (.int k136)], [.ref 69], (0, 0), hp137)) rfl rfl ?_
                                        refine bs_getU (g := 11) (g1 := 132) rfl rfl Hhp137 (bs_R.uq Hhp137 (g := 11) rfl) (by decide) rfl rfl ?_
                                        refine bs_lit (k := 120) rfl rfl fun z146 hz146 => ?_
                                        refine Ev.step (j := 16) (s' := ([some (.ref 69), some (.int k136)], [.int k136, .int z146, .ref 71], (0, 0), hp137)) rfl rfl ?_
                                        first | (refine bs_add rfl (by omega) (by omega) fun z147 hz147 => ?_) | (refine bs_any rfl fun z147 => ?_)
                                        have rz147 := n_range z147
                                        refine Ev.step (j := 18) (s' := ([some (.ref 69), some (.int k136)], [.ref 69, .int z147, .ref 71], (0, 0), hp137)) rfl rfl ?_
                                        refine bs_getU (g := 11) (g1 := 139) rfl rfl Hhp137 (bs_R.uq Hhp137 (g := 11) rfl) (by decide) rfl rfl ?_
                                        refine Ev.step (j := 22) (s' := ([some (.ref 69), some (.int k136)], [.int k136, .ref 78, .int z147, .ref 71], (0, 0), hp137)) rfl rfl ?_
                                        refine bs_ldK (g := 139) rfl Hhp137 (bs_R.uq Hhp137 (g := 139) rfl) (by decide) rfl (by omega) (by show _ < ((133 : Nat) : Int); omega) fun z148 hz148 kz148 => ?_
                                        have rz148 := n_range z148
                                        have kv : ∀ n, sf_v t138 n (sf_e (sf_A 132).2.2 z147.toInt.toNat) (.int z148) := fun n => by
                                          have h1 := sg_139 k136.toInt.toNat (by omega)
                                          have h2 := sg_132 (z147.toInt.toNat - 120) (by omega)
                                          rw [show 120 + (z147.toInt.toNat - 120) = z147.toInt.toNat by omega] at h2
                                          have h3 := kz148 n
                                          rw [h1] at h3
                                          rw [h2]
                                          have e9 : 120 + (z147.toInt.toNat - 120) % 133 = 120 + k136.toInt.toNat % 133 := by omega
                                          rw [e9]
                                          exact h3
                                        refine bs_stK (W := [(132, 120, 252)]) (g := 132) 120 252 rfl Hhp137 (bs_R.uq Hhp137 (g := 132) rfl) (by decide) rfl (by decide) rfl rfl (by omega) (by omega) (kv _) fun hp149 Hhp149 fhp149 rhp149 ehp149 qhp149 nhp149 => ?_
                                        clear kv
                                        have Fhp149 := sf_fr_tr Fhp137 (sf_fr_wider (W := [(11, 0, 0), (11, 22, 22), (132, 120, 252), (139, 0, 132)]) rfl fhp149)
                                        refine bs_iinc (1) rfl rfl rfl rfl (by omega) (by omega) fun z150 hz150 => ?_
                                        refine (show Ev _ 27 ([some (.ref 69), some (.int z150)], [], (0, 0), hp149) _ from ?_)
                                        refine Ev.step (j := 2) (s' := ([some (.ref 69), some (.int z150)], [], (0, 0), hp149)) rfl rfl ?_
                                        have TB : ∀ j : Nat, (j : Int) < z150.toInt → sf_rd hp149 71 (120 + j) = sf_rd hp110 78 j := by
                                          intro j hj
                                          by_cases hji : (j : Int) < k136.toInt
                                          · exact ((ehp149 _ _ (Or.inr (by omega)))).trans (i141 j hji)
                                          · have e : j = k136.toInt.toNat := by omega
                                            subst e
                                            exact (bs_at rhp149 (by omega)).trans ((bs_at hz148 (by omega)).symm.trans (i142 _))
                                        have TC : ∀ q : Nat, sf_rd hp149 78 q = sf_rd hp110 78 q := fun q => ((ehp149 _ _ (Or.inl (by decide)))).trans (i142 q)
                                        refine ih139 (z150, hp149, t138) ⟨Hhp149, Fhp149, (by first | omega | assumption), (by first | exact TB | exact fun j hj => absurd hj (by omega)), (by first | exact TC | exact fun q => rfl)⟩ ?_
                                        show (133 - z150.toInt).toNat < (133 - k136.toInt).toNat
                                        omega
                              · skip
                                refine Ev.step (j := 10) (s' := ([some (.ref 69), some (.int k73)], [.ref 69], (0, 0), hp74)) rfl rfl ?_
                                refine bs_getU (g := 11) (g1 := 139) rfl rfl Hhp74 (bs_R.uq Hhp74 (g := 11) rfl) (by decide) rfl rfl ?_
                                refine Ev.step (j := 14) (s' := ([some (.ref 69), some (.int k73)], [.int k73, .ref 78], (0, 0), hp74)) rfl rfl ?_
                                refine Ev.step (j := 15) (s' := ([some (.ref 69), some (.int k73)], [.ref 69, .int k73, .ref 78], (0, 0), hp74)) rfl rfl ?_
                                refine bs_getU (g := 11) (g1 := 132) rfl rfl Hhp74 (bs_R.uq Hhp74 (g := 11) rfl) (by decide) rfl rfl ?_
                                refine bs_lit (k := 120) rfl rfl fun z151 hz151 => ?_
                                refine Ev.step (j := 21) (s' := ([some (.ref 69), some (.int k73)], [.int k73, .int z151, .ref 71, .int k73, .ref 78], (0, 0), hp74)) rfl rfl ?_
                                first | (refine bs_add rfl (by omega) (by omega) fun z152 hz152 => ?_) | (refine bs_any rfl fun z152 => ?_)
                                have rz152 := n_range z152
                                refine bs_ldK (g := 132) rfl Hhp74 (bs_R.uq Hhp74 (g := 132) rfl) (by decide) rfl (by omega) (by show _ < ((434 : Nat) : Int); omega) fun z153 hz153 kz153 => ?_
                                have rz153 := n_range z153
                                have kv : ∀ n, sf_v t75 n (sf_e (sf_A 139).2.2 k73.toInt.toNat) (.int z153) := fun n => by
                                  have h1 := sg_132 (z152.toInt.toNat - 120) (by omega)
                                  have h2 := sg_139 k73.toInt.toNat (by omega)
                                  rw [show 120 + (z152.toInt.toNat - 120) = z152.toInt.toNat by omega] at h1
                                  have h3 := kz153 n
                                  rw [h1] at h3
                                  rw [h2]
                                  have e9 : 120 + k73.toInt.toNat % 133 = 120 + (z152.toInt.toNat - 120) % 133 := by omega
                                  rw [e9]
                                  exact h3
                                refine bs_stK (W := [(139, 0, 132)]) (g := 139) 0 132 rfl Hhp74 (bs_R.uq Hhp74 (g := 139) rfl) (by decide) rfl (by decide) rfl rfl (by omega) (by omega) (kv _) fun hp154 Hhp154 fhp154 rhp154 ehp154 qhp154 nhp154 => ?_
                                clear kv
                                have Fhp154 := sf_fr_tr Fhp74 (sf_fr_wider (W := [(11, 0, 0), (11, 22, 22), (132, 120, 252), (139, 0, 132)]) rfl fhp154)
                                refine bs_iinc (1) rfl rfl rfl rfl (by omega) (by omega) fun z155 hz155 => ?_
                                refine (show Ev _ 27 ([some (.ref 69), some (.int z155)], [], (0, 0), hp154) _ from ?_)
                                refine Ev.step (j := 2) (s' := ([some (.ref 69), some (.int z155)], [], (0, 0), hp154)) rfl rfl ?_
                                have TB : ∀ j : Nat, (j : Int) < z155.toInt → sf_rd hp154 78 j = sf_rd hp2 71 (120 + j) := by
                                  intro j hj
                                  by_cases hji : (j : Int) < k73.toInt
                                  · exact ((ehp154 _ _ (Or.inr (by omega)))).trans (i78 j hji)
                                  · have e : j = k73.toInt.toNat := by omega
                                    subst e
                                    exact (bs_at rhp154 (by omega)).trans ((bs_at hz153 (by omega)).symm.trans (i79 _))
                                have TC : ∀ q : Nat, sf_rd hp154 71 q = sf_rd hp2 71 q := fun q => ((ehp154 _ _ (Or.inl (by decide)))).trans (i79 q)
                                refine ih76 (z155, hp154, t75) ⟨Hhp154, Fhp154, (by first | omega | assumption), (by first | exact TB | exact fun j hj => absurd hj (by omega)), (by first | exact TC | exact fun q => rfl)⟩ ?_
                                show (133 - z155.toInt).toNat < (133 - k73.toInt).toNat
                                omega
                            · exfalso; omega
def kq_X11_lays_37dbf4 : sf_Q := ([(1, 11, 0), (0, 0, 0)], [(1, 3, 0, 0, 2, 0)], none, [], [(140, 0, 59)])
def kc_X11_lays_37dbf4 : List (Nat × sf_I) := [(0, 0, [1, 0]),
  (1, 5, [2, 2]),
  (2, 2, [3, 2]),
  (3, 0, [5, 12]),
  (5, 21, [8, 34, 5]),
  (8, 4, [9, 0]),
  (9, 23, [12, 11, 26]),
  (12, 0, [14, 20]),
  (14, 2, [15, 1]),
  (15, 9, [16, 2]),
  (16, 2, [17, 2]),
  (17, 9, [18, 0]),
  (18, 4, [19, 0]),
  (19, 23, [22, 11, 6]),
  (22, 0, [24, 124]),
  (24, 2, [25, 2]),
  (25, 9, [26, 0]),
  (26, 25, [27, 1]),
  (27, 28, [28, 1]),
  (28, 8, [31, 2, 1]),
  (31, 22, [2]),
  (34, 0, [35, 0]),
  (35, 5, [36, 2]),
  (36, 2, [37, 2]),
  (37, 0, [39, 8]),
  (39, 21, [42, 72, 5]),
  (42, 4, [43, 0]),
  (43, 23, [46, 11, 26]),
  (46, 0, [48, 20]),
  (48, 2, [49, 1]),
  (49, 9, [50, 2]),
  (50, 0, [52, 12]),
  (52, 9, [53, 0]),
  (53, 2, [54, 2]),
  (54, 9, [55, 0]),
  (55, 4, [56, 0]),
  (56, 23, [59, 11, 6]),
  (59, 0, [62, 172]),
  (62, 2, [63, 2]),
  (63, 9, [64, 0]),
  (64, 25, [65, 1]),
  (65, 28, [66, 1]),
  (66, 8, [69, 2, 1]),
  (69, 22, [36]),
  (72, 37, [0, 0])]
def kd_X11_lays_37dbf4_0 : List (Nat × sf_D × sf_M) := [(0, ([(1, 11, 0), (0, 0, 0), (8, 0, 0)], [], [(1, 4, 0, 0, 2, 0)], 0, 0), (462, [])),
  (1, ([(1, 11, 0), (0, 0, 0), (8, 0, 0)], [(0, 0, 0)], [(1, 4, 0, 0, 2, 0), (1, 0, 0, 0, 0, 0)], 0, 0), (461, [])),
  (2, ([(1, 11, 0), (0, 0, 0), (0, 0, 0)], [], [(1, 4, 0, 0, 2, 0), (1, 7, 0, 0, 12, 0)], 0, 0), (208, [(21, 7, 12, 0)])),
  (3, ([(1, 11, 0), (0, 0, 0), (0, 0, 0)], [(0, 0, 0)], [(1, 4, 0, 0, 2, 0), (1, 7, 0, 0, 12, 0), (1, 0, 0, 0, 12, 0), (2, 0, 7, 1, 0, 0)], 0, 0), (207, [(21, 7, 12, 0)])),
  (5, ([(1, 11, 0), (0, 0, 0), (0, 0, 0)], [(0, 0, 0), (0, 0, 0)], [(1, 4, 0, 0, 2, 0), (1, 7, 0, 0, 12, 0), (1, 0, 0, 0, 12, 0), (1, 3, 0, 12, 12, 0), (2, 0, 7, 1, 0, 0)], 0, 0), (206, [(21, 7, 12, 0)])),
  (8, ([(1, 11, 0), (0, 0, 0), (0, 0, 0)], [], [(1, 4, 0, 0, 2, 0), (1, 7, 0, 0, 11, 0)], 0, 0), (203, [(21, 7, 12, 0)])),
  (9, ([(1, 11, 0), (0, 0, 0), (0, 0, 0)], [(1, 11, 0)], [(1, 4, 0, 0, 2, 0), (1, 7, 0, 0, 11, 0)], 0, 0), (202, [(21, 7, 12, 0)])),
  (12, ([(1, 11, 0), (0, 0, 0), (0, 0, 0)], [(1, 140, 0)], [(1, 4, 0, 0, 2, 0), (1, 7, 0, 0, 11, 0)], 0, 0), (201, [(21, 7, 12, 0)])),
  (14, ([(1, 11, 0), (0, 0, 0), (0, 0, 0)], [(0, 0, 0), (1, 140, 0)], [(1, 4, 0, 0, 2, 0), (1, 7, 0, 0, 11, 0), (1, 3, 0, 20, 20, 0)], 0, 0), (200, [(21, 7, 12, 0)])),
  (15, ([(1, 11, 0), (0, 0, 0), (0, 0, 0)], [(0, 0, 0), (0, 0, 0), (1, 140, 0)], [(1, 4, 0, 0, 2, 0), (1, 7, 0, 0, 11, 0), (1, 3, 0, 20, 20, 0), (1, 6, 0, 0, 2, 0), (2, 6, 4, 1, 0, 0)], 0, 0), (199, [(21, 7, 12, 0)]))]
def kd_X11_lays_37dbf4_1 : List (Nat × sf_D × sf_M) := [(16, ([(1, 11, 0), (0, 0, 0), (0, 0, 0)], [(0, 0, 0), (1, 140, 0)], [(1, 4, 0, 0, 2, 0), (1, 7, 0, 0, 11, 0), (1, 3, 0, 0, 40, 0), (2, 3, 4, 20, 0, 0)], 0, 0), (198, [(21, 7, 12, 0)])),
  (17, ([(1, 11, 0), (0, 0, 0), (0, 0, 0)], [(0, 0, 0), (0, 0, 0), (1, 140, 0)], [(1, 4, 0, 0, 2, 0), (1, 7, 0, 0, 11, 0), (1, 3, 0, 0, 40, 0), (1, 6, 0, 0, 11, 0), (2, 3, 4, 20, 0, 0), (2, 6, 7, 1, 0, 0)], 0, 0), (197, [(21, 7, 12, 0)])),
  (18, ([(1, 11, 0), (0, 0, 0), (0, 0, 0)], [(0, 0, 0), (1, 140, 0)], [(1, 4, 0, 0, 2, 0), (1, 7, 0, 0, 11, 0), (1, 3, 0, 0, 51, 0)], 0, 0), (196, [(21, 7, 12, 0)])),
  (19, ([(1, 11, 0), (0, 0, 0), (0, 0, 0)], [(1, 11, 0), (0, 0, 0), (1, 140, 0)], [(1, 4, 0, 0, 2, 0), (1, 7, 0, 0, 11, 0), (1, 3, 0, 0, 51, 0)], 0, 0), (195, [(21, 7, 12, 0)])),
  (22, ([(1, 11, 0), (0, 0, 0), (0, 0, 0)], [(1, 132, 0), (0, 0, 0), (1, 140, 0)], [(1, 4, 0, 0, 2, 0), (1, 7, 0, 0, 11, 0), (1, 3, 0, 0, 51, 0)], 0, 0), (194, [(21, 7, 12, 0)])),
  (24, ([(1, 11, 0), (0, 0, 0), (0, 0, 0)], [(0, 0, 0), (1, 132, 0), (0, 0, 0), (1, 140, 0)], [(1, 4, 0, 0, 2, 0), (1, 7, 0, 0, 11, 0), (1, 3, 0, 0, 51, 0), (1, 9, 0, 124, 124, 0)], 0, 0), (193, [(21, 7, 12, 0)])),
  (25, ([(1, 11, 0), (0, 0, 0), (0, 0, 0)], [(0, 0, 0), (0, 0, 0), (1, 132, 0), (0, 0, 0), (1, 140, 0)], [(1, 4, 0, 0, 2, 0), (1, 7, 0, 0, 11, 0), (1, 3, 0, 0, 51, 0), (1, 9, 0, 124, 124, 0), (1, 12, 0, 0, 11, 0), (2, 12, 7, 1, 0, 0)], 0, 0), (192, [(21, 7, 12, 0)]))]
def kd_X11_lays_37dbf4_2 : List (Nat × sf_D × sf_M) := [(26, ([(1, 11, 0), (0, 0, 0), (0, 0, 0)], [(0, 0, 0), (1, 132, 0), (0, 0, 0), (1, 140, 0)], [(1, 4, 0, 0, 2, 0), (1, 7, 0, 0, 11, 0), (1, 3, 0, 0, 51, 0), (1, 9, 0, 124, 135, 0), (2, 9, 7, 1, 124, 0)], 0, 0), (191, [(21, 7, 12, 0)])),
  (27, ([(1, 11, 0), (0, 0, 0), (0, 0, 0)], [(0, 0, 0), (0, 0, 0), (1, 140, 0)], [(1, 4, 0, 0, 2, 0), (1, 7, 0, 0, 11, 0), (1, 3, 0, 0, 51, 0), (1, 6, 0, 0, 999, 0)], 0, 0), (190, [(21, 7, 12, 0)])),
  (28, ([(1, 11, 0), (0, 0, 0), (0, 0, 0)], [], [(1, 4, 0, 0, 2, 0), (1, 7, 0, 0, 11, 0)], 0, 0), (189, [(21, 7, 12, 0)])),
  (31, ([(1, 11, 0), (0, 0, 0), (0, 0, 0)], [], [(1, 4, 0, 0, 2, 0), (1, 7, 0, 1, 12, 0)], 0, 0), (209, [(21, 7, 12, 0)])),
  (34, ([(1, 11, 0), (0, 0, 0), (0, 0, 0)], [], [(1, 4, 0, 0, 2, 0), (1, 7, 0, 12, 12, 0)], 0, 0), (205, [])),
  (35, ([(1, 11, 0), (0, 0, 0), (0, 0, 0)], [(0, 0, 0)], [(1, 4, 0, 0, 2, 0), (1, 7, 0, 12, 12, 0), (1, 0, 0, 0, 0, 0)], 0, 0), (204, [])),
  (36, ([(1, 11, 0), (0, 0, 0), (0, 0, 0)], [], [(1, 4, 0, 0, 2, 0), (1, 7, 0, 0, 8, 0)], 0, 0), (19, [(23, 7, 8, 0)])),
  (37, ([(1, 11, 0), (0, 0, 0), (0, 0, 0)], [(0, 0, 0)], [(1, 4, 0, 0, 2, 0), (1, 7, 0, 0, 8, 0), (1, 0, 0, 0, 8, 0), (2, 0, 7, 1, 0, 0)], 0, 0), (18, [(23, 7, 8, 0)])),
  (39, ([(1, 11, 0), (0, 0, 0), (0, 0, 0)], [(0, 0, 0), (0, 0, 0)], [(1, 4, 0, 0, 2, 0), (1, 7, 0, 0, 8, 0), (1, 0, 0, 0, 8, 0), (1, 3, 0, 8, 8, 0), (2, 0, 7, 1, 0, 0)], 0, 0), (17, [(23, 7, 8, 0)]))]
def kd_X11_lays_37dbf4_3 : List (Nat × sf_D × sf_M) := [(42, ([(1, 11, 0), (0, 0, 0), (0, 0, 0)], [], [(1, 4, 0, 0, 2, 0), (1, 7, 0, 0, 7, 0)], 0, 0), (16, [(23, 7, 8, 0)])),
  (43, ([(1, 11, 0), (0, 0, 0), (0, 0, 0)], [(1, 11, 0)], [(1, 4, 0, 0, 2, 0), (1, 7, 0, 0, 7, 0)], 0, 0), (15, [(23, 7, 8, 0)])),
  (46, ([(1, 11, 0), (0, 0, 0), (0, 0, 0)], [(1, 140, 0)], [(1, 4, 0, 0, 2, 0), (1, 7, 0, 0, 7, 0)], 0, 0), (14, [(23, 7, 8, 0)])),
  (48, ([(1, 11, 0), (0, 0, 0), (0, 0, 0)], [(0, 0, 0), (1, 140, 0)], [(1, 4, 0, 0, 2, 0), (1, 7, 0, 0, 7, 0), (1, 3, 0, 20, 20, 0)], 0, 0), (13, [(23, 7, 8, 0)])),
  (49, ([(1, 11, 0), (0, 0, 0), (0, 0, 0)], [(0, 0, 0), (0, 0, 0), (1, 140, 0)], [(1, 4, 0, 0, 2, 0), (1, 7, 0, 0, 7, 0), (1, 3, 0, 20, 20, 0), (1, 6, 0, 0, 2, 0), (2, 6, 4, 1, 0, 0)], 0, 0), (12, [(23, 7, 8, 0)])),
  (50, ([(1, 11, 0), (0, 0, 0), (0, 0, 0)], [(0, 0, 0), (1, 140, 0)], [(1, 4, 0, 0, 2, 0), (1, 7, 0, 0, 7, 0), (1, 3, 0, 0, 40, 0), (2, 3, 4, 20, 0, 0)], 0, 0), (11, [(23, 7, 8, 0)])),
  (52, ([(1, 11, 0), (0, 0, 0), (0, 0, 0)], [(0, 0, 0), (0, 0, 0), (1, 140, 0)], [(1, 4, 0, 0, 2, 0), (1, 7, 0, 0, 7, 0), (1, 3, 0, 0, 40, 0), (1, 6, 0, 12, 12, 0), (2, 3, 4, 20, 0, 0)], 0, 0), (10, [(23, 7, 8, 0)])),
  (53, ([(1, 11, 0), (0, 0, 0), (0, 0, 0)], [(0, 0, 0), (1, 140, 0)], [(1, 4, 0, 0, 2, 0), (1, 7, 0, 0, 7, 0), (1, 3, 0, 12, 52, 0), (2, 3, 4, 20, 12, 0)], 0, 0), (9, [(23, 7, 8, 0)]))]
def kd_X11_lays_37dbf4_4 : List (Nat × sf_D × sf_M) := [(54, ([(1, 11, 0), (0, 0, 0), (0, 0, 0)], [(0, 0, 0), (0, 0, 0), (1, 140, 0)], [(1, 4, 0, 0, 2, 0), (1, 7, 0, 0, 7, 0), (1, 3, 0, 12, 52, 0), (1, 6, 0, 0, 7, 0), (2, 3, 4, 20, 12, 0), (2, 6, 7, 1, 0, 0)], 0, 0), (8, [(23, 7, 8, 0)])),
  (55, ([(1, 11, 0), (0, 0, 0), (0, 0, 0)], [(0, 0, 0), (1, 140, 0)], [(1, 4, 0, 0, 2, 0), (1, 7, 0, 0, 7, 0), (1, 3, 0, 12, 59, 0)], 0, 0), (7, [(23, 7, 8, 0)])),
  (56, ([(1, 11, 0), (0, 0, 0), (0, 0, 0)], [(1, 11, 0), (0, 0, 0), (1, 140, 0)], [(1, 4, 0, 0, 2, 0), (1, 7, 0, 0, 7, 0), (1, 3, 0, 12, 59, 0)], 0, 0), (6, [(23, 7, 8, 0)])),
  (59, ([(1, 11, 0), (0, 0, 0), (0, 0, 0)], [(1, 132, 0), (0, 0, 0), (1, 140, 0)], [(1, 4, 0, 0, 2, 0), (1, 7, 0, 0, 7, 0), (1, 3, 0, 12, 59, 0)], 0, 0), (5, [(23, 7, 8, 0)])),
  (62, ([(1, 11, 0), (0, 0, 0), (0, 0, 0)], [(0, 0, 0), (1, 132, 0), (0, 0, 0), (1, 140, 0)], [(1, 4, 0, 0, 2, 0), (1, 7, 0, 0, 7, 0), (1, 3, 0, 12, 59, 0), (1, 9, 0, 172, 172, 0)], 0, 0), (4, [(23, 7, 8, 0)])),
  (63, ([(1, 11, 0), (0, 0, 0), (0, 0, 0)], [(0, 0, 0), (0, 0, 0), (1, 132, 0), (0, 0, 0), (1, 140, 0)], [(1, 4, 0, 0, 2, 0), (1, 7, 0, 0, 7, 0), (1, 3, 0, 12, 59, 0), (1, 9, 0, 172, 172, 0), (1, 12, 0, 0, 7, 0), (2, 12, 7, 1, 0, 0)], 0, 0), (3, [(23, 7, 8, 0)])),
  (64, ([(1, 11, 0), (0, 0, 0), (0, 0, 0)], [(0, 0, 0), (1, 132, 0), (0, 0, 0), (1, 140, 0)], [(1, 4, 0, 0, 2, 0), (1, 7, 0, 0, 7, 0), (1, 3, 0, 12, 59, 0), (1, 9, 0, 172, 179, 0), (2, 9, 7, 1, 172, 0)], 0, 0), (2, [(23, 7, 8, 0)]))]
def kd_X11_lays_37dbf4_5 : List (Nat × sf_D × sf_M) := [(65, ([(1, 11, 0), (0, 0, 0), (0, 0, 0)], [(0, 0, 0), (0, 0, 0), (1, 140, 0)], [(1, 4, 0, 0, 2, 0), (1, 7, 0, 0, 7, 0), (1, 3, 0, 12, 59, 0), (1, 6, 0, -2147483648, 2147483647, 0)], 0, 0), (1, [(23, 7, 8, 0)])),
  (66, ([(1, 11, 0), (0, 0, 0), (0, 0, 0)], [], [(1, 4, 0, 0, 2, 0), (1, 7, 0, 0, 7, 0)], 0, 0), (0, [(23, 7, 8, 0)])),
  (69, ([(1, 11, 0), (0, 0, 0), (0, 0, 0)], [], [(1, 4, 0, 0, 2, 0), (1, 7, 0, 1, 8, 0)], 0, 0), (20, [(23, 7, 8, 0)])),
  (72, ([(1, 11, 0), (0, 0, 0), (0, 0, 0)], [], [(1, 4, 0, 0, 2, 0), (1, 7, 0, 8, 8, 0)], 0, 0), (0, []))]
def kd_X11_lays_37dbf4 : List (Nat × sf_D × sf_M) := kd_X11_lays_37dbf4_0 ++ (kd_X11_lays_37dbf4_1 ++ (kd_X11_lays_37dbf4_2 ++ (kd_X11_lays_37dbf4_3 ++ (kd_X11_lays_37dbf4_4 ++ (kd_X11_lays_37dbf4_5)))))
set_option maxRecDepth 100000 in
theorem kt_X11_lays_37dbf4 : sf_chk [] kq_X11_lays_37dbf4 3 kc_X11_lays_37dbf4 kd_X11_lays_37dbf4 = true := by decide +kernel
set_option maxRecDepth 100000 in
theorem kl_X11_lays_37dbf4 : (kc_X11_lays_37dbf4).map (fun c => (c.1, sf_den ([] : List sf_X) c.2)) = L_X11_lays := rfl
theorem ct_X11_lays_37dbf4 : sf_ct kq_X11_lays_37dbf4 Z_X11_lays := by
  have h := sf_meth (K := []) (E := []) (k := kq_X11_lays_37dbf4) (nL := 3) (C := kc_X11_lays_37dbf4) (D := kd_X11_lays_37dbf4) (fun m k hk => match m, hk with
    | _ + 0, hk => (by cases hk)) kt_X11_lays_37dbf4
  rw [kl_X11_lays_37dbf4] at h
  exact h
def kq_X11_areAlike_f82440 : sf_Q := ([(1, 11, 0), (0, 0, 0), (0, 0, 0)], [(1, 3, 0, 0, 2, 0), (1, 6, 0, 0, 2, 0)], some (0, 0, 0), [(1, 0, 0, 0, 1, 0)], [])
def kc_X11_areAlike_f82440 : List (Nat × sf_I) := [(0, 0, [1, 0]),
  (1, 5, [2, 3]),
  (2, 2, [3, 3]),
  (3, 0, [5, 20]),
  (5, 21, [8, 41, 5]),
  (8, 4, [9, 0]),
  (9, 23, [12, 11, 26]),
  (12, 0, [14, 20]),
  (14, 2, [15, 1]),
  (15, 9, [16, 2]),
  (16, 2, [17, 3]),
  (17, 9, [18, 0]),
  (18, 25, [19, 1]),
  (19, 4, [20, 0]),
  (20, 23, [23, 11, 26]),
  (23, 0, [25, 20]),
  (25, 2, [26, 2]),
  (26, 9, [27, 2]),
  (27, 2, [28, 3]),
  (28, 9, [29, 0]),
  (29, 25, [30, 1]),
  (30, 21, [33, 35, 0]),
  (33, 0, [34, 0]),
  (34, 36, [0, 0]),
  (35, 8, [38, 3, 1]),
  (38, 22, [2]),
  (41, 0, [42, 1]),
  (42, 36, [0, 0])]
def kd_X11_areAlike_f82440_0 : List (Nat × sf_D × sf_M) := [(0, ([(1, 11, 0), (0, 0, 0), (0, 0, 0), (8, 0, 0)], [], [(1, 4, 0, 0, 2, 0), (1, 7, 0, 0, 2, 0)], 0, 0), (503, [])),
  (1, ([(1, 11, 0), (0, 0, 0), (0, 0, 0), (8, 0, 0)], [(0, 0, 0)], [(1, 4, 0, 0, 2, 0), (1, 7, 0, 0, 2, 0), (1, 0, 0, 0, 0, 0)], 0, 0), (502, [])),
  (2, ([(1, 11, 0), (0, 0, 0), (0, 0, 0), (0, 0, 0)], [], [(1, 4, 0, 0, 2, 0), (1, 7, 0, 0, 2, 0), (1, 10, 0, 0, 20, 0)], 0, 0), (21, [(24, 10, 20, 0)])),
  (3, ([(1, 11, 0), (0, 0, 0), (0, 0, 0), (0, 0, 0)], [(0, 0, 0)], [(1, 4, 0, 0, 2, 0), (1, 7, 0, 0, 2, 0), (1, 10, 0, 0, 20, 0), (1, 0, 0, 0, 20, 0), (2, 0, 10, 1, 0, 0)], 0, 0), (20, [(24, 10, 20, 0)])),
  (5, ([(1, 11, 0), (0, 0, 0), (0, 0, 0), (0, 0, 0)], [(0, 0, 0), (0, 0, 0)], [(1, 4, 0, 0, 2, 0), (1, 7, 0, 0, 2, 0), (1, 10, 0, 0, 20, 0), (1, 0, 0, 0, 20, 0), (1, 3, 0, 20, 20, 0), (2, 0, 10, 1, 0, 0)], 0, 0), (19, [(24, 10, 20, 0)])),
  (8, ([(1, 11, 0), (0, 0, 0), (0, 0, 0), (0, 0, 0)], [], [(1, 4, 0, 0, 2, 0), (1, 7, 0, 0, 2, 0), (1, 10, 0, 0, 19, 0)], 0, 0), (18, [(24, 10, 20, 0)])),
  (9, ([(1, 11, 0), (0, 0, 0), (0, 0, 0), (0, 0, 0)], [(1, 11, 0)], [(1, 4, 0, 0, 2, 0), (1, 7, 0, 0, 2, 0), (1, 10, 0, 0, 19, 0)], 0, 0), (17, [(24, 10, 20, 0)]))]
def kd_X11_areAlike_f82440_1 : List (Nat × sf_D × sf_M) := [(12, ([(1, 11, 0), (0, 0, 0), (0, 0, 0), (0, 0, 0)], [(1, 140, 0)], [(1, 4, 0, 0, 2, 0), (1, 7, 0, 0, 2, 0), (1, 10, 0, 0, 19, 0)], 0, 0), (16, [(24, 10, 20, 0)])),
  (14, ([(1, 11, 0), (0, 0, 0), (0, 0, 0), (0, 0, 0)], [(0, 0, 0), (1, 140, 0)], [(1, 4, 0, 0, 2, 0), (1, 7, 0, 0, 2, 0), (1, 10, 0, 0, 19, 0), (1, 3, 0, 20, 20, 0)], 0, 0), (15, [(24, 10, 20, 0)])),
  (15, ([(1, 11, 0), (0, 0, 0), (0, 0, 0), (0, 0, 0)], [(0, 0, 0), (0, 0, 0), (1, 140, 0)], [(1, 4, 0, 0, 2, 0), (1, 7, 0, 0, 2, 0), (1, 10, 0, 0, 19, 0), (1, 3, 0, 20, 20, 0), (1, 6, 0, 0, 2, 0), (2, 6, 4, 1, 0, 0)], 0, 0), (14, [(24, 10, 20, 0)])),
  (16, ([(1, 11, 0), (0, 0, 0), (0, 0, 0), (0, 0, 0)], [(0, 0, 0), (1, 140, 0)], [(1, 4, 0, 0, 2, 0), (1, 7, 0, 0, 2, 0), (1, 10, 0, 0, 19, 0), (1, 3, 0, 0, 40, 0), (2, 3, 4, 20, 0, 0)], 0, 0), (13, [(24, 10, 20, 0)])),
  (17, ([(1, 11, 0), (0, 0, 0), (0, 0, 0), (0, 0, 0)], [(0, 0, 0), (0, 0, 0), (1, 140, 0)], [(1, 4, 0, 0, 2, 0), (1, 7, 0, 0, 2, 0), (1, 10, 0, 0, 19, 0), (1, 3, 0, 0, 40, 0), (1, 6, 0, 0, 19, 0), (2, 3, 4, 20, 0, 0), (2, 6, 10, 1, 0, 0)], 0, 0), (12, [(24, 10, 20, 0)]))]
def kd_X11_areAlike_f82440_2 : List (Nat × sf_D × sf_M) := [(18, ([(1, 11, 0), (0, 0, 0), (0, 0, 0), (0, 0, 0)], [(0, 0, 0), (1, 140, 0)], [(1, 4, 0, 0, 2, 0), (1, 7, 0, 0, 2, 0), (1, 10, 0, 0, 19, 0), (1, 3, 0, 0, 59, 0)], 0, 0), (11, [(24, 10, 20, 0)])),
  (19, ([(1, 11, 0), (0, 0, 0), (0, 0, 0), (0, 0, 0)], [(0, 0, 0)], [(1, 4, 0, 0, 2, 0), (1, 7, 0, 0, 2, 0), (1, 10, 0, 0, 19, 0), (1, 0, 0, -2147483648, 2147483647, 0)], 0, 0), (10, [(24, 10, 20, 0)])),
  (20, ([(1, 11, 0), (0, 0, 0), (0, 0, 0), (0, 0, 0)], [(1, 11, 0), (0, 0, 0)], [(1, 4, 0, 0, 2, 0), (1, 7, 0, 0, 2, 0), (1, 10, 0, 0, 19, 0), (1, 0, 0, -2147483648, 2147483647, 0)], 0, 0), (9, [(24, 10, 20, 0)])),
  (23, ([(1, 11, 0), (0, 0, 0), (0, 0, 0), (0, 0, 0)], [(1, 140, 0), (0, 0, 0)], [(1, 4, 0, 0, 2, 0), (1, 7, 0, 0, 2, 0), (1, 10, 0, 0, 19, 0), (1, 0, 0, -2147483648, 2147483647, 0)], 0, 0), (8, [(24, 10, 20, 0)])),
  (25, ([(1, 11, 0), (0, 0, 0), (0, 0, 0), (0, 0, 0)], [(0, 0, 0), (1, 140, 0), (0, 0, 0)], [(1, 4, 0, 0, 2, 0), (1, 7, 0, 0, 2, 0), (1, 10, 0, 0, 19, 0), (1, 0, 0, -2147483648, 2147483647, 0), (1, 6, 0, 20, 20, 0)], 0, 0), (7, [(24, 10, 20, 0)])),
  (26, ([(1, 11, 0), (0, 0, 0), (0, 0, 0), (0, 0, 0)], [(0, 0, 0), (0, 0, 0), (1, 140, 0), (0, 0, 0)], [(1, 4, 0, 0, 2, 0), (1, 7, 0, 0, 2, 0), (1, 10, 0, 0, 19, 0), (1, 0, 0, -2147483648, 2147483647, 0), (1, 6, 0, 20, 20, 0), (1, 9, 0, 0, 2, 0), (2, 9, 7, 1, 0, 0)], 0, 0), (6, [(24, 10, 20, 0)]))]
def kd_X11_areAlike_f82440_3 : List (Nat × sf_D × sf_M) := [(27, ([(1, 11, 0), (0, 0, 0), (0, 0, 0), (0, 0, 0)], [(0, 0, 0), (1, 140, 0), (0, 0, 0)], [(1, 4, 0, 0, 2, 0), (1, 7, 0, 0, 2, 0), (1, 10, 0, 0, 19, 0), (1, 0, 0, -2147483648, 2147483647, 0), (1, 6, 0, 0, 40, 0), (2, 6, 7, 20, 0, 0)], 0, 0), (5, [(24, 10, 20, 0)])),
  (28, ([(1, 11, 0), (0, 0, 0), (0, 0, 0), (0, 0, 0)], [(0, 0, 0), (0, 0, 0), (1, 140, 0), (0, 0, 0)], [(1, 4, 0, 0, 2, 0), (1, 7, 0, 0, 2, 0), (1, 10, 0, 0, 19, 0), (1, 0, 0, -2147483648, 2147483647, 0), (1, 6, 0, 0, 40, 0), (1, 9, 0, 0, 19, 0), (2, 6, 7, 20, 0, 0), (2, 9, 10, 1, 0, 0)], 0, 0), (4, [(24, 10, 20, 0)])),
  (29, ([(1, 11, 0), (0, 0, 0), (0, 0, 0), (0, 0, 0)], [(0, 0, 0), (1, 140, 0), (0, 0, 0)], [(1, 4, 0, 0, 2, 0), (1, 7, 0, 0, 2, 0), (1, 10, 0, 0, 19, 0), (1, 0, 0, -2147483648, 2147483647, 0), (1, 6, 0, 0, 59, 0)], 0, 0), (3, [(24, 10, 20, 0)])),
  (30, ([(1, 11, 0), (0, 0, 0), (0, 0, 0), (0, 0, 0)], [(0, 0, 0), (0, 0, 0)], [(1, 4, 0, 0, 2, 0), (1, 7, 0, 0, 2, 0), (1, 10, 0, 0, 19, 0), (1, 0, 0, -2147483648, 2147483647, 0), (1, 3, 0, -2147483648, 2147483647, 0)], 0, 0), (2, [(24, 10, 20, 0)])),
  (33, ([(1, 11, 0), (0, 0, 0), (0, 0, 0), (0, 0, 0)], [], [(1, 4, 0, 0, 2, 0), (1, 7, 0, 0, 2, 0), (1, 10, 0, 0, 19, 0)], 0, 0), (1, []))]
def kd_X11_areAlike_f82440_4 : List (Nat × sf_D × sf_M) := [(34, ([(1, 11, 0), (0, 0, 0), (0, 0, 0), (0, 0, 0)], [(0, 0, 0)], [(1, 4, 0, 0, 2, 0), (1, 7, 0, 0, 2, 0), (1, 10, 0, 0, 19, 0), (1, 0, 0, 0, 0, 0)], 0, 0), (0, [])),
  (35, ([(1, 11, 0), (0, 0, 0), (0, 0, 0), (0, 0, 0)], [], [(1, 4, 0, 0, 2, 0), (1, 7, 0, 0, 2, 0), (1, 10, 0, 0, 19, 0)], 0, 0), (0, [(24, 10, 20, 0)])),
  (38, ([(1, 11, 0), (0, 0, 0), (0, 0, 0), (0, 0, 0)], [], [(1, 4, 0, 0, 2, 0), (1, 7, 0, 0, 2, 0), (1, 10, 0, 1, 20, 0)], 0, 0), (22, [(24, 10, 20, 0)])),
  (41, ([(1, 11, 0), (0, 0, 0), (0, 0, 0), (0, 0, 0)], [], [(1, 4, 0, 0, 2, 0), (1, 7, 0, 0, 2, 0), (1, 10, 0, 20, 20, 0)], 0, 0), (1, [])),
  (42, ([(1, 11, 0), (0, 0, 0), (0, 0, 0), (0, 0, 0)], [(0, 0, 0)], [(1, 4, 0, 0, 2, 0), (1, 7, 0, 0, 2, 0), (1, 10, 0, 20, 20, 0), (1, 0, 0, 1, 1, 0)], 0, 0), (0, []))]
def kd_X11_areAlike_f82440 : List (Nat × sf_D × sf_M) := kd_X11_areAlike_f82440_0 ++ (kd_X11_areAlike_f82440_1 ++ (kd_X11_areAlike_f82440_2 ++ (kd_X11_areAlike_f82440_3 ++ (kd_X11_areAlike_f82440_4))))
set_option maxRecDepth 100000 in
theorem kt_X11_areAlike_f82440 : sf_chk [] kq_X11_areAlike_f82440 4 kc_X11_areAlike_f82440 kd_X11_areAlike_f82440 = true := by decide +kernel
set_option maxRecDepth 100000 in
theorem kl_X11_areAlike_f82440 : (kc_X11_areAlike_f82440).map (fun c => (c.1, sf_den ([] : List sf_X) c.2)) = L_X11_areAlike := rfl
theorem ct_X11_areAlike_f82440 : sf_ct kq_X11_areAlike_f82440 Z_X11_areAlike := by
  have h := sf_meth (K := []) (E := []) (k := kq_X11_areAlike_f82440) (nL := 4) (C := kc_X11_areAlike_f82440) (D := kd_X11_areAlike_f82440) (fun m k hk => match m, hk with
    | _ + 0, hk => (by cases hk)) kt_X11_areAlike_f82440
  rw [kl_X11_areAlike_f82440] at h
  exact h
def kq_X11_settles_h : sf_Q := ([(1, 11, 0)], [], some (0, 0, 0), [], [(11, 0, 0), (11, 22, 22), (132, 120, 252), (139, 0, 132), (140, 0, 59)])
set_option maxRecDepth 100000 in
set_option maxHeartbeats 4000000 in
theorem ct_X11_settles_h : sf_ct kq_X11_settles_h Z_X11_settles := by
  intro t hp as H hl hj hpre
  match as, hl with
  | [v0], _ =>
    obtain ⟨a0, rfl, ra0⟩ := bs_aR (hj 0 _ rfl)
    obtain rfl := ra0.eq H (p := 69) rfl
    clear hpre hj
    have F0 : sf_fr [(11, 0, 0), (11, 22, 22), (132, 120, 252), (139, 0, 132), (140, 0, 59)] t hp t hp := sf_fr_rf
    refine bs_fin (K := kq_X11_settles_h) (L := (L_X11_settles Z_X11_tries Z_X11_lays Z_X11_areAlike Z_X11_goesOn Z_X11_back)) (nL := 3) (Nat.le_of_ble_eq_true rfl) ?_
    obtain ⟨Q, hQ⟩ : ∃ Q : ab_O → Prop, Q = (fun o => ∃ t', sf_h t' o.2 ∧ sf_fr (kq_X11_settles_h).2.2.2.2 t hp t' o.2 ∧ sf_an t' o.2.1 (kq_X11_settles_h).2.2.1 o.1 ∧ sf_S (sf_v1 o.1 [.ref 69] o.2) (kq_X11_settles_h).2.2.2.1) := ⟨_, rfl⟩
    rw [← hQ]
    refine (show Ev (ab_T (L_X11_settles Z_X11_tries Z_X11_lays Z_X11_areAlike Z_X11_goesOn Z_X11_back)) 0 ([some (.ref 69), none, none], [], (0, 0), hp) Q from ?_)
    refine Ev.step (j := 1) (s' := ([some (.ref 69), none, none], [.ref 69], (0, 0), hp)) rfl rfl ?_
    refine bs_lit (k := 0) rfl rfl fun z1 hz1 => ?_
    refine bs_putI (W := [(11, 0, 0)]) (g := 11) rfl rfl H (bs_R.uq H (g := 11) rfl) (by decide) rfl rfl rfl rfl (Or.inl rfl) (by omega) (by omega) fun hp2 Hhp2 fhp2 rhp2 ehp2 qhp2 nhp2 => ?_
    have Fhp2 := sf_fr_tr F0 (sf_fr_wider (W := [(11, 0, 0), (11, 22, 22), (132, 120, 252), (139, 0, 132), (140, 0, 59)]) rfl fhp2)
    refine Ev.step (j := 6) (s' := ([some (.ref 69), none, none], [.ref 69], (0, 0), hp2)) rfl rfl ?_
    refine bs_call (K := kq_X11_tries_h) [.ref 69] [] rfl ct_X11_tries_h Hhp2 rfl rfl rfl (bs_rcv (g := 11) Hhp2 (bs_R.uq Hhp2 (g := 11) rfl) (by decide) rfl) rfl ?_ (sf_S_nil) fun r3 hp4 thp4 Hhp4 fhp4 ahp4 php4 => ?_
    · intro q k h
      match q, h with
      | 0, h => cases h; exact bs_jR (bs_R.uq Hhp2 (g := 11) rfl)
      | q + 1, h => cases h
    obtain rfl := ahp4.1 rfl
    have Fhp4 := sf_fr_tr Fhp2 (sf_fr_wider (W := [(11, 0, 0), (11, 22, 22), (132, 120, 252), (139, 0, 132), (140, 0, 59)]) rfl fhp4)
    have h5 : sf_rd hp4 69 0 = some z1.toInt := (fhp4.2.2.1 _ (bs_R.uq Hhp2 (g := 11) (p := 69) rfl).1 _ (by rw [(bs_R.uq Hhp2 (g := 11) (p := 69) rfl).2]; rfl)).trans rhp2
    refine (show Ev _ 9 ([some (.ref 69), none, none], [], (0, 0), hp4) _ from ?_)
    refine bs_lit (k := -1) rfl rfl fun z6 hz6 => ?_
    refine Ev.step (j := 11) (s' := ([some (.ref 69), some (.int z6), none], [], (0, 0), hp4)) rfl rfl ?_
    refine bs_lit (k := 0) rfl rfl fun z7 hz7 => ?_
    refine Ev.step (j := 13) (s' := ([some (.ref 69), some (.int z6), some (.int z7)], [], (0, 0), hp4)) rfl rfl ?_
    refine bs_loop (ι := Int32 × Int32 × ab_H × (Nat → Nat)) (fun ⟨k8, k9, hp10, t11⟩ => ([some (.ref 69), some (.int k8), some (.int k9)], [], (0, 0), hp10)) (fun ⟨k8, k9, hp10, t11⟩ => (sf_h t11 hp10) ∧ (sf_fr [(11, 0, 0), (11, 22, 22), (132, 120, 252), (139, 0, 132), (140, 0, 59)] t hp t11 hp10) ∧ (0 ≤ k9.toInt ∧ k9.toInt ≤ 203)) (fun ⟨k8, k9, hp10, t11⟩ => (203 - k9.toInt).toNat) ?_ (z6, z7, hp4, thp4) ⟨Hhp4, Fhp4, (by first | omega | assumption)⟩
    rintro ⟨k8, k9, hp10, t11⟩ ⟨Hhp10, Fhp10, i13⟩ ih12
    refine (show Ev _ 13 ([some (.ref 69), some (.int k8), some (.int k9)], [], (0, 0), hp10) _ from ?_)
    refine Ev.step (j := 14) (s' := ([some (.ref 69), some (.int k8), some (.int k9)], [.int k9], (0, 0), hp10)) rfl rfl ?_
    refine bs_lit (k := 202) rfl rfl fun z14 hz14 => ?_
    refine bs_gt rfl (fun c15 => ?_) (fun c15 => ?_)
    · skip
      refine Ev.step (j := 83) (s' := ([some (.ref 69), some (.int k8), some (.int k9)], [.ref 69], (0, 0), hp10)) rfl rfl ?_
      refine bs_call (K := kq_X11_back_h) [.ref 69] [] rfl ct_X11_back_h Hhp10 rfl rfl rfl (bs_rcv (g := 11) Hhp10 (bs_R.uq Hhp10 (g := 11) rfl) (by decide) rfl) rfl ?_ (sf_S_nil) fun r16 hp17 thp17 Hhp17 fhp17 ahp17 php17 => ?_
      · intro q k h
        match q, h with
        | 0, h => cases h; exact bs_jR (bs_R.uq Hhp10 (g := 11) rfl)
        | q + 1, h => cases h
      obtain rfl := ahp17.1 rfl
      have Fhp17 := sf_fr_tr Fhp10 (sf_fr_wider (W := [(11, 0, 0), (11, 22, 22), (132, 120, 252), (139, 0, 132), (140, 0, 59)]) rfl fhp17)
      refine (show Ev _ 86 ([some (.ref 69), some (.int k8), some (.int k9)], [], (0, 0), hp17) _ from ?_)
      refine Ev.step (j := 87) (s' := ([some (.ref 69), some (.int k8), some (.int k9)], [.int k8], (0, 0), hp17)) rfl rfl ?_
      exact Ev.ret rfl rfl (by rw [hQ]; exact ⟨thp17, Hhp17, Fhp17, bs_an0, sf_S_nil⟩)
    · skip
      refine Ev.step (j := 21) (s' := ([some (.ref 69), some (.int k8), some (.int k9)], [.int k8], (0, 0), hp10)) rfl rfl ?_
      refine bs_ifge rfl (fun c18 => ?_) (fun c18 => ?_)
      · skip
        refine Ev.step (j := 83) (s' := ([some (.ref 69), some (.int k8), some (.int k9)], [.ref 69], (0, 0), hp10)) rfl rfl ?_
        refine bs_call (K := kq_X11_back_h) [.ref 69] [] rfl ct_X11_back_h Hhp10 rfl rfl rfl (bs_rcv (g := 11) Hhp10 (bs_R.uq Hhp10 (g := 11) rfl) (by decide) rfl) rfl ?_ (sf_S_nil) fun r19 hp20 thp20 Hhp20 fhp20 ahp20 php20 => ?_
        · intro q k h
          match q, h with
          | 0, h => cases h; exact bs_jR (bs_R.uq Hhp10 (g := 11) rfl)
          | q + 1, h => cases h
        obtain rfl := ahp20.1 rfl
        have Fhp20 := sf_fr_tr Fhp10 (sf_fr_wider (W := [(11, 0, 0), (11, 22, 22), (132, 120, 252), (139, 0, 132), (140, 0, 59)]) rfl fhp20)
        refine (show Ev _ 86 ([some (.ref 69), some (.int k8), some (.int k9)], [], (0, 0), hp20) _ from ?_)
        refine Ev.step (j := 87) (s' := ([some (.ref 69), some (.int k8), some (.int k9)], [.int k8], (0, 0), hp20)) rfl rfl ?_
        exact Ev.ret rfl rfl (by rw [hQ]; exact ⟨thp20, Hhp20, Fhp20, bs_an0, sf_S_nil⟩)
      · skip
        refine Ev.step (j := 25) (s' := ([some (.ref 69), some (.int k8), some (.int k9)], [.ref 69], (0, 0), hp10)) rfl rfl ?_
        refine Ev.step (j := 26) (s' := ([some (.ref 69), some (.int k8), some (.int k9)], [.int k9, .ref 69], (0, 0), hp10)) rfl rfl ?_
        refine bs_lit (k := 3) rfl rfl fun z21 hz21 => ?_
        refine bs_rem 3 rfl hz21 (by decide) (by omega) fun z22 hz22 => ?_
        refine bs_call (K := kq_X11_lays_37dbf4) [.ref 69, .int z22] [] rfl ct_X11_lays_37dbf4 Hhp10 rfl rfl rfl (bs_rcv (g := 11) Hhp10 (bs_R.uq Hhp10 (g := 11) rfl) (by decide) rfl) rfl ?_ (sf_S_cons (sf_s1 (x := z22.toInt) rfl (by omega) (by omega)) (sf_S_nil)) fun r23 hp24 thp24 Hhp24 fhp24 ahp24 php24 => ?_
        · intro q k h
          match q, h with
          | 0, h => cases h; exact bs_jR (bs_R.uq Hhp10 (g := 11) rfl)
          | 1, h => cases h; exact sf_j0
          | q + 2, h => cases h
        obtain rfl := ahp24.1 rfl
        have Fhp24 := sf_fr_tr Fhp10 (sf_fr_wider (W := [(11, 0, 0), (11, 22, 22), (132, 120, 252), (139, 0, 132), (140, 0, 59)]) rfl fhp24)
        refine (show Ev _ 31 ([some (.ref 69), some (.int k8), some (.int k9)], [], (0, 0), hp24) _ from ?_)
        refine Ev.step (j := 32) (s' := ([some (.ref 69), some (.int k8), some (.int k9)], [.int k9], (0, 0), hp24)) rfl rfl ?_
        refine bs_lit (k := 1) rfl rfl fun z25 hz25 => ?_
        refine bs_le rfl (fun c26 => ?_) (fun c26 => ?_)
        · skip
          refine Ev.step (j := 65) (s' := ([some (.ref 69), some (.int k8), some (.int k9)], [.ref 69], (0, 0), hp24)) rfl rfl ?_
          refine bs_lit (k := 1) rfl rfl fun z27 hz27 => ?_
          refine bs_call (K := kq_X11_goesOn_3d45d6) [.ref 69, .int z27] [] rfl ct_X11_goesOn_3d45d6 Hhp24 rfl rfl rfl (bs_rcv (g := 11) Hhp24 (bs_R.uq Hhp24 (g := 11) rfl) (by decide) rfl) rfl ?_ (sf_S_nil) fun r28 hp29 thp29 Hhp29 fhp29 ahp29 php29 => ?_
          · intro q k h
            match q, h with
            | 0, h => cases h; exact bs_jR (bs_R.uq Hhp24 (g := 11) rfl)
            | 1, h => cases h; exact sf_j0
            | q + 2, h => cases h
          obtain ⟨z30, rfl⟩ := bs_anI ahp29
          have rgz30 := n_range z30
          have Fhp29 := sf_fr_tr Fhp24 (sf_fr_wider (W := [(11, 0, 0), (11, 22, 22), (132, 120, 252), (139, 0, 132), (140, 0, 59)]) rfl fhp29)
          obtain ⟨uz30, vz30⟩ := bs_s1 (x := z30.toInt) rfl (php29 _ (List.mem_of_getElem? (i := 0) rfl))
          refine (show Ev _ 69 ([some (.ref 69), some (.int k8), some (.int k9)], [.int z30], (0, 0), hp29) _ from ?_)
          refine bs_ifne rfl (fun c31 => ?_) (fun c31 => ?_)
          · skip
            refine bs_iinc (1) rfl rfl rfl rfl (by omega) (by omega) fun z32 hz32 => ?_
            refine (show Ev _ 79 ([some (.ref 69), some (.int k8), some (.int z32)], [], (0, 0), hp29) _ from ?_)
            refine Ev.step (j := 13) (s' := ([some (.ref 69), some (.int k8), some (.int z32)], [], (0, 0), hp29)) rfl rfl ?_
            refine ih12 (k8, z32, hp29, thp29) ⟨Hhp29, Fhp29, (by first | omega | assumption)⟩ ?_
            show (203 - z32.toInt).toNat < (203 - k9.toInt).toNat
            omega
          · skip
            have c33 : z30.toInt = 0 := by omega
            refine bs_lit (k := 202) rfl rfl fun z34 hz34 => ?_
            refine Ev.step (j := 76) (s' := ([some (.ref 69), some (.int k8), some (.int z34)], [], (0, 0), hp29)) rfl rfl ?_
            refine bs_iinc (1) rfl rfl rfl rfl (by omega) (by omega) fun z35 hz35 => ?_
            refine (show Ev _ 79 ([some (.ref 69), some (.int k8), some (.int z35)], [], (0, 0), hp29) _ from ?_)
            refine Ev.step (j := 13) (s' := ([some (.ref 69), some (.int k8), some (.int z35)], [], (0, 0), hp29)) rfl rfl ?_
            refine ih12 (k8, z35, hp29, thp29) ⟨Hhp29, Fhp29, (by first | omega | assumption)⟩ ?_
            show (203 - z35.toInt).toNat < (203 - k9.toInt).toNat
            omega
        · skip
          refine Ev.step (j := 37) (s' := ([some (.ref 69), some (.int k8), some (.int k9)], [.ref 69], (0, 0), hp24)) rfl rfl ?_
          refine Ev.step (j := 38) (s' := ([some (.ref 69), some (.int k8), some (.int k9)], [.int k9, .ref 69], (0, 0), hp24)) rfl rfl ?_
          refine bs_lit (k := 3) rfl rfl fun z36 hz36 => ?_
          refine bs_rem 3 rfl hz36 (by decide) (by omega) fun z37 hz37 => ?_
          refine Ev.step (j := 41) (s' := ([some (.ref 69), some (.int k8), some (.int k9)], [.int k9, .int z37, .ref 69], (0, 0), hp24)) rfl rfl ?_
          refine bs_lit (k := 2) rfl rfl fun z38 hz38 => ?_
          first | (refine bs_sub rfl (by omega) (by omega) fun z39 hz39 => ?_) | (refine bs_any rfl fun z39 => ?_)
          have rz39 := n_range z39
          refine bs_lit (k := 3) rfl rfl fun z40 hz40 => ?_
          refine bs_rem 3 rfl hz40 (by decide) (by omega) fun z41 hz41 => ?_
          refine bs_call (K := kq_X11_areAlike_f82440) [.ref 69, .int z37, .int z41] [] rfl ct_X11_areAlike_f82440 Hhp24 rfl rfl rfl (bs_rcv (g := 11) Hhp24 (bs_R.uq Hhp24 (g := 11) rfl) (by decide) rfl) rfl ?_ (sf_S_cons (sf_s1 (x := z37.toInt) rfl (by omega) (by omega)) (sf_S_cons (sf_s1 (x := z41.toInt) rfl (by omega) (by omega)) (sf_S_nil))) fun r42 hp43 thp43 Hhp43 fhp43 ahp43 php43 => ?_
          · intro q k h
            match q, h with
            | 0, h => cases h; exact bs_jR (bs_R.uq Hhp24 (g := 11) rfl)
            | 1, h => cases h; exact sf_j0
            | 2, h => cases h; exact sf_j0
            | q + 3, h => cases h
          obtain ⟨z44, rfl⟩ := bs_anI ahp43
          have rgz44 := n_range z44
          have Fhp43 := sf_fr_tr Fhp24 (sf_fr_wider (W := [(11, 0, 0), (11, 22, 22), (132, 120, 252), (139, 0, 132), (140, 0, 59)]) rfl fhp43)
          obtain ⟨uz44, vz44⟩ := bs_s1 (x := z44.toInt) rfl (php43 _ (List.mem_of_getElem? (i := 0) rfl))
          refine (show Ev _ 48 ([some (.ref 69), some (.int k8), some (.int k9)], [.int z44], (0, 0), hp43) _ from ?_)
          refine bs_ifeq rfl (fun c45 => ?_) (fun c45 => ?_)
          · skip
            have c46 : z44.toInt = 0 := by omega
            refine Ev.step (j := 65) (s' := ([some (.ref 69), some (.int k8), some (.int k9)], [.ref 69], (0, 0), hp43)) rfl rfl ?_
            refine bs_lit (k := 1) rfl rfl fun z47 hz47 => ?_
            refine bs_call (K := kq_X11_goesOn_3d45d6) [.ref 69, .int z47] [] rfl ct_X11_goesOn_3d45d6 Hhp43 rfl rfl rfl (bs_rcv (g := 11) Hhp43 (bs_R.uq Hhp43 (g := 11) rfl) (by decide) rfl) rfl ?_ (sf_S_nil) fun r48 hp49 thp49 Hhp49 fhp49 ahp49 php49 => ?_
            · intro q k h
              match q, h with
              | 0, h => cases h; exact bs_jR (bs_R.uq Hhp43 (g := 11) rfl)
              | 1, h => cases h; exact sf_j0
              | q + 2, h => cases h
            obtain ⟨z50, rfl⟩ := bs_anI ahp49
            have rgz50 := n_range z50
            have Fhp49 := sf_fr_tr Fhp43 (sf_fr_wider (W := [(11, 0, 0), (11, 22, 22), (132, 120, 252), (139, 0, 132), (140, 0, 59)]) rfl fhp49)
            obtain ⟨uz50, vz50⟩ := bs_s1 (x := z50.toInt) rfl (php49 _ (List.mem_of_getElem? (i := 0) rfl))
            refine (show Ev _ 69 ([some (.ref 69), some (.int k8), some (.int k9)], [.int z50], (0, 0), hp49) _ from ?_)
            refine bs_ifne rfl (fun c51 => ?_) (fun c51 => ?_)
            · skip
              refine bs_iinc (1) rfl rfl rfl rfl (by omega) (by omega) fun z52 hz52 => ?_
              refine (show Ev _ 79 ([some (.ref 69), some (.int k8), some (.int z52)], [], (0, 0), hp49) _ from ?_)
              refine Ev.step (j := 13) (s' := ([some (.ref 69), some (.int k8), some (.int z52)], [], (0, 0), hp49)) rfl rfl ?_
              refine ih12 (k8, z52, hp49, thp49) ⟨Hhp49, Fhp49, (by first | omega | assumption)⟩ ?_
              show (203 - z52.toInt).toNat < (203 - k9.toInt).toNat
              omega
            · skip
              have c53 : z50.toInt = 0 := by omega
              refine bs_lit (k := 202) rfl rfl fun z54 hz54 => ?_
              refine Ev.step (j := 76) (s' := ([some (.ref 69), some (.int k8), some (.int z54)], [], (0, 0), hp49)) rfl rfl ?_
              refine bs_iinc (1) rfl rfl rfl rfl (by omega) (by omega) fun z55 hz55 => ?_
              refine (show Ev _ 79 ([some (.ref 69), some (.int k8), some (.int z55)], [], (0, 0), hp49) _ from ?_)
              refine Ev.step (j := 13) (s' := ([some (.ref 69), some (.int k8), some (.int z55)], [], (0, 0), hp49)) rfl rfl ?_
              refine ih12 (k8, z55, hp49, thp49) ⟨Hhp49, Fhp49, (by first | omega | assumption)⟩ ?_
              show (203 - z55.toInt).toNat < (203 - k9.toInt).toNat
              omega
          · skip
            refine Ev.step (j := 52) (s' := ([some (.ref 69), some (.int k8), some (.int k9)], [.ref 69], (0, 0), hp43)) rfl rfl ?_
            refine bs_getU (g := 11) (g1 := 132) rfl rfl Hhp43 (bs_R.uq Hhp43 (g := 11) rfl) (by decide) rfl rfl ?_
            refine bs_lit (k := 120) rfl rfl fun z56 hz56 => ?_
            refine bs_ld (g := 132) 120 120 (0, 400) rfl Hhp43 (bs_R.uq Hhp43 (g := 132) rfl) (by decide) rfl (by decide) (by decide) rfl (by decide) (by omega) (by omega) fun z57 hz57 lz57 gz57 => ?_
            dsimp only at lz57 gz57
            replace hz57 := bs_at hz57 (show z56.toInt.toNat = 120 by omega)
            refine bs_lit (k := 2) rfl rfl fun z58 hz58 => ?_
            first | (refine bs_sub rfl (by omega) (by omega) fun z59 hz59 => ?_) | (refine bs_any rfl fun z59 => ?_)
            have rz59 := n_range z59
            refine Ev.step (j := 61) (s' := ([some (.ref 69), some (.int z59), some (.int k9)], [], (0, 0), hp43)) rfl rfl ?_
            refine Ev.step (j := 76) (s' := ([some (.ref 69), some (.int z59), some (.int k9)], [], (0, 0), hp43)) rfl rfl ?_
            refine bs_iinc (1) rfl rfl rfl rfl (by omega) (by omega) fun z60 hz60 => ?_
            refine (show Ev _ 79 ([some (.ref 69), some (.int z59), some (.int z60)], [], (0, 0), hp43) _ from ?_)
            refine Ev.step (j := 13) (s' := ([some (.ref 69), some (.int z59), some (.int z60)], [], (0, 0), hp43)) rfl rfl ?_
            refine ih12 (z59, z60, hp43, thp43) ⟨Hhp43, Fhp43, (by first | omega | assumption)⟩ ?_
            show (203 - z60.toInt).toNat < (203 - k9.toInt).toNat
            omega
def kq_X11_taken_39c368 : sf_Q := ([(1, 11, 0), (0, 0, 0)], [(1, 3, 0, 940, 940, 0)], none, [(1, 36008, 0, 0, 0, 0), (1, 36014, 0, 0, 0, 0), (1, 36017, 0, 940, 940, 0)], [(11, 2, 5), (999, 0, 0)])
def kc_X11_taken_39c368 : List (Nat × sf_I) := [(0, 4, [1, 0]),
  (1, 4, [2, 0]),
  (2, 23, [5, 11, 2]),
  (5, 24, [8, 11, 3, 0]),
  (8, 4, [9, 0]),
  (9, 0, [10, 0]),
  (10, 24, [13, 11, 2, 0]),
  (13, 4, [14, 0]),
  (14, 0, [15, 0]),
  (15, 24, [18, 11, 4, 0]),
  (18, 4, [19, 0]),
  (19, 2, [20, 1]),
  (20, 24, [23, 11, 5, 0]),
  (23, 37, [0, 0])]
def kd_X11_taken_39c368_0 : List (Nat × sf_D × sf_M) := [(0, ([(1, 11, 0), (0, 0, 0)], [], [(1, 4, 0, 940, 940, 0)], 0, 0), (13, [])),
  (1, ([(1, 11, 0), (0, 0, 0)], [(1, 11, 0)], [(1, 4, 0, 940, 940, 0)], 0, 0), (12, [])),
  (2, ([(1, 11, 0), (0, 0, 0)], [(1, 11, 0), (1, 11, 0)], [(1, 4, 0, 940, 940, 0)], 0, 0), (11, [])),
  (5, ([(1, 11, 0), (0, 0, 0)], [(0, 0, 940), (1, 11, 0)], [(1, 4, 0, 940, 940, 0), (1, 3, 0, 0, 940, 0), (1, 36008, 0, -2147483648, 2147483647, 0), (2, 3, 36008, 1, 0, 0)], 0, 0), (10, [])),
  (8, ([(1, 11, 0), (0, 0, 0)], [], [(1, 4, 0, 940, 940, 0), (1, 36011, 0, 0, 940, 0), (1, 36008, 0, -2147483648, 2147483647, 0), (2, 36011, 36008, 1, 0, 0)], 0, 0), (9, [])),
  (9, ([(1, 11, 0), (0, 0, 0)], [(1, 11, 0)], [(1, 4, 0, 940, 940, 0), (1, 36011, 0, 0, 940, 0), (1, 36008, 0, -2147483648, 2147483647, 0), (2, 36011, 36008, 1, 0, 0)], 0, 0), (8, [])),
  (10, ([(1, 11, 0), (0, 0, 0)], [(0, 0, 0), (1, 11, 0)], [(1, 4, 0, 940, 940, 0), (1, 36011, 0, 0, 940, 0), (1, 36008, 0, -2147483648, 2147483647, 0), (1, 3, 0, 0, 0, 0), (2, 36011, 36008, 1, 0, 0)], 0, 0), (7, [])),
  (13, ([(1, 11, 0), (0, 0, 0)], [], [(1, 4, 0, 940, 940, 0), (1, 36011, 0, 0, 940, 0), (1, 36008, 0, 0, 0, 0)], 0, 0), (6, [])),
  (14, ([(1, 11, 0), (0, 0, 0)], [(1, 11, 0)], [(1, 4, 0, 940, 940, 0), (1, 36011, 0, 0, 940, 0), (1, 36008, 0, 0, 0, 0)], 0, 0), (5, [])),
  (15, ([(1, 11, 0), (0, 0, 0)], [(0, 0, 0), (1, 11, 0)], [(1, 4, 0, 940, 940, 0), (1, 36011, 0, 0, 940, 0), (1, 36008, 0, 0, 0, 0), (1, 3, 0, 0, 0, 0)], 0, 0), (4, []))]
def kd_X11_taken_39c368_1 : List (Nat × sf_D × sf_M) := [(18, ([(1, 11, 0), (0, 0, 0)], [], [(1, 4, 0, 940, 940, 0), (1, 36011, 0, 0, 940, 0), (1, 36008, 0, 0, 0, 0), (1, 36014, 0, 0, 0, 0)], 0, 0), (3, [])),
  (19, ([(1, 11, 0), (0, 0, 0)], [(1, 11, 0)], [(1, 4, 0, 940, 940, 0), (1, 36011, 0, 0, 940, 0), (1, 36008, 0, 0, 0, 0), (1, 36014, 0, 0, 0, 0)], 0, 0), (2, [])),
  (20, ([(1, 11, 0), (0, 0, 0)], [(0, 0, 0), (1, 11, 0)], [(1, 4, 0, 940, 940, 0), (1, 36011, 0, 0, 940, 0), (1, 36008, 0, 0, 0, 0), (1, 36014, 0, 0, 0, 0), (1, 3, 0, 940, 940, 0), (2, 3, 4, 1, 0, 0)], 0, 0), (1, [])),
  (23, ([(1, 11, 0), (0, 0, 0)], [], [(1, 4, 0, 940, 940, 0), (1, 36011, 0, 0, 940, 0), (1, 36008, 0, 0, 0, 0), (1, 36014, 0, 0, 0, 0), (1, 36017, 0, 940, 940, 0), (2, 36017, 4, 1, 0, 0)], 0, 0), (0, []))]
def kd_X11_taken_39c368 : List (Nat × sf_D × sf_M) := kd_X11_taken_39c368_0 ++ (kd_X11_taken_39c368_1)
set_option maxRecDepth 100000 in
theorem kt_X11_taken_39c368 : sf_chk [] kq_X11_taken_39c368 2 kc_X11_taken_39c368 kd_X11_taken_39c368 = true := by decide +kernel
set_option maxRecDepth 100000 in
theorem kl_X11_taken_39c368 : (kc_X11_taken_39c368).map (fun c => (c.1, sf_den ([] : List sf_X) c.2)) = L_X11_taken := rfl
theorem ct_X11_taken_39c368 : sf_ct kq_X11_taken_39c368 Z_X11_taken := by
  have h := sf_meth (K := []) (E := []) (k := kq_X11_taken_39c368) (nL := 2) (C := kc_X11_taken_39c368) (D := kd_X11_taken_39c368) (fun m k hk => match m, hk with
    | _ + 0, hk => (by cases hk)) kt_X11_taken_39c368
  rw [kl_X11_taken_39c368] at h
  exact h
def kq_X11_which_h : sf_Q := ([(1, 11, 0)], [], some (0, 0, 0), [], [(11, 0, 0), (11, 2, 5), (999, 0, 0)])
set_option maxRecDepth 100000 in
set_option maxHeartbeats 4000000 in
theorem ct_X11_which_h : sf_ct kq_X11_which_h Z_X11_which := by
  intro t hp as H hl hj hpre
  match as, hl with
  | [v0], _ =>
    obtain ⟨a0, rfl, ra0⟩ := bs_aR (hj 0 _ rfl)
    obtain rfl := ra0.eq H (p := 69) rfl
    clear hpre hj
    have F0 : sf_fr [(11, 0, 0), (11, 2, 5), (999, 0, 0)] t hp t hp := sf_fr_rf
    refine bs_fin (K := kq_X11_which_h) (L := (L_X11_which Z_X11_taken Z_X11_isIn Z_X11_octet Z_X11_cell Z_X11_lesser)) (nL := 7) (Nat.le_of_ble_eq_true rfl) ?_
    obtain ⟨Q, hQ⟩ : ∃ Q : ab_O → Prop, Q = (fun o => ∃ t', sf_h t' o.2 ∧ sf_fr (kq_X11_which_h).2.2.2.2 t hp t' o.2 ∧ sf_an t' o.2.1 (kq_X11_which_h).2.2.1 o.1 ∧ sf_S (sf_v1 o.1 [.ref 69] o.2) (kq_X11_which_h).2.2.2.1) := ⟨_, rfl⟩
    rw [← hQ]
    refine (show Ev (ab_T (L_X11_which Z_X11_taken Z_X11_isIn Z_X11_octet Z_X11_cell Z_X11_lesser)) 0 ([some (.ref 69), none, none, none, none, none, none], [], (0, 0), hp) Q from ?_)
    refine Ev.step (j := 1) (s' := ([some (.ref 69), none, none, none, none, none, none], [.ref 69], (0, 0), hp)) rfl rfl ?_
    refine bs_lit (k := 0) rfl rfl fun z1 hz1 => ?_
    refine bs_putI (W := [(11, 0, 0)]) (g := 11) rfl rfl H (bs_R.uq H (g := 11) rfl) (by decide) rfl rfl rfl rfl (Or.inl rfl) (by omega) (by omega) fun hp2 Hhp2 fhp2 rhp2 ehp2 qhp2 nhp2 => ?_
    have Fhp2 := sf_fr_tr F0 (sf_fr_wider (W := [(11, 0, 0), (11, 2, 5), (999, 0, 0)]) rfl fhp2)
    refine Ev.step (j := 6) (s' := ([some (.ref 69), none, none, none, none, none, none], [.ref 69], (0, 0), hp2)) rfl rfl ?_
    refine bs_lit (k := 940) rfl rfl fun z3 hz3 => ?_
    refine bs_call (K := kq_X11_taken_39c368) [.ref 69, .int z3] [] rfl ct_X11_taken_39c368 Hhp2 rfl rfl rfl (bs_rcv (g := 11) Hhp2 (bs_R.uq Hhp2 (g := 11) rfl) (by decide) rfl) rfl ?_ (sf_S_cons (sf_s1 (x := z3.toInt) rfl (by omega) (by omega)) (sf_S_nil)) fun r4 hp5 thp5 Hhp5 fhp5 ahp5 php5 => ?_
    · intro q k h
      match q, h with
      | 0, h => cases h; exact bs_jR (bs_R.uq Hhp2 (g := 11) rfl)
      | 1, h => cases h; exact sf_j0
      | q + 2, h => cases h
    obtain rfl := ahp5.1 rfl
    have Fhp5 := sf_fr_tr Fhp2 (sf_fr_wider (W := [(11, 0, 0), (11, 2, 5), (999, 0, 0)]) rfl fhp5)
    have h6 : sf_rd hp5 69 0 = some z1.toInt := (fhp5.2.2.1 _ (bs_R.uq Hhp2 (g := 11) (p := 69) rfl).1 _ (by rw [(bs_R.uq Hhp2 (g := 11) (p := 69) rfl).2]; rfl)).trans rhp2
    obtain ⟨y7, ey7, uy7, vy7⟩ := (php5 _ (List.mem_of_getElem? (i := 0) rfl)).1 rfl
    replace ey7 : sf_rd hp5 69 2 = some y7 := ey7
    replace uy7 : (0 : Int) ≤ y7 := uy7
    replace vy7 : y7 ≤ (0 : Int) := vy7
    obtain ⟨y8, ey8, uy8, vy8⟩ := (php5 _ (List.mem_of_getElem? (i := 1) rfl)).1 rfl
    replace ey8 : sf_rd hp5 69 4 = some y8 := ey8
    replace uy8 : (0 : Int) ≤ y8 := uy8
    replace vy8 : y8 ≤ (0 : Int) := vy8
    obtain ⟨y9, ey9, uy9, vy9⟩ := (php5 _ (List.mem_of_getElem? (i := 2) rfl)).1 rfl
    replace ey9 : sf_rd hp5 69 5 = some y9 := ey9
    replace uy9 : (940 : Int) ≤ y9 := uy9
    replace vy9 : y9 ≤ (940 : Int) := vy9
    refine (show Ev _ 12 ([some (.ref 69), none, none, none, none, none, none], [], (0, 0), hp5) _ from ?_)
    refine Ev.step (j := 13) (s' := ([some (.ref 69), none, none, none, none, none, none], [.ref 69], (0, 0), hp5)) rfl rfl ?_
    refine bs_getI 11 rfl rfl rfl Hhp5 (bs_R.uq Hhp5 (g := 11) rfl) (by decide) rfl fun z10 hz10 lz10 gz10 => ?_
    refine bs_lit (k := 3) rfl rfl fun z11 hz11 => ?_
    refine bs_lit (k := 31) rfl rfl fun z12 hz12 => ?_
    refine Ev.inlS (L := L_X11_isIn) (nL := 3) rfl rfl (Nat.le_of_ble_eq_true rfl) ?_
    generalize hQ13 : (fun (o : ab_O) => Ev _ _ _ _) = Q13
    refine (show Ev (ab_T L_X11_isIn) 0 ([some (.int z10), some (.int z11), some (.int z12)], [], (0, 0), hp5) Q13 from ?_)
    refine Ev.step (j := 1) (s' := ([some (.int z10), some (.int z11), some (.int z12)], [.int z10], (0, 0), hp5)) rfl rfl ?_
    refine Ev.step (j := 2) (s' := ([some (.int z10), some (.int z11), some (.int z12)], [.int z11, .int z10], (0, 0), hp5)) rfl rfl ?_
    refine bs_lt rfl (fun c14 => ?_) (fun c14 => ?_)
    · skip
      refine bs_lit (k := 0) rfl rfl fun z15 hz15 => ?_
      refine bs_zret rfl rfl (by omega) (by omega) ?_
      rw [← hQ13]
      refine (show Ev _ 22 ([some (.ref 69), none, none, none, none, none, none], [.int z15], (0, 0), hp5) _ from ?_)
      refine bs_ifeq rfl (fun c16 => ?_) (fun c16 => ?_)
      · skip
        refine bs_lit (k := -1) rfl rfl fun z17 hz17 => ?_
        exact Ev.ret rfl rfl (by rw [hQ]; exact ⟨thp5, Hhp5, Fhp5, bs_an0, sf_S_nil⟩)
      · exfalso; omega
    · skip
      refine Ev.step (j := 6) (s' := ([some (.int z10), some (.int z11), some (.int z12)], [.int z10], (0, 0), hp5)) rfl rfl ?_
      refine Ev.step (j := 7) (s' := ([some (.int z10), some (.int z11), some (.int z12)], [.int z12, .int z10], (0, 0), hp5)) rfl rfl ?_
      refine bs_gt rfl (fun c18 => ?_) (fun c18 => ?_)
      · skip
        refine bs_lit (k := 0) rfl rfl fun z19 hz19 => ?_
        refine bs_zret rfl rfl (by omega) (by omega) ?_
        rw [← hQ13]
        refine (show Ev _ 22 ([some (.ref 69), none, none, none, none, none, none], [.int z19], (0, 0), hp5) _ from ?_)
        refine bs_ifeq rfl (fun c20 => ?_) (fun c20 => ?_)
        · skip
          refine bs_lit (k := -1) rfl rfl fun z21 hz21 => ?_
          exact Ev.ret rfl rfl (by rw [hQ]; exact ⟨thp5, Hhp5, Fhp5, bs_an0, sf_S_nil⟩)
        · exfalso; omega
      · skip
        refine bs_lit (k := 1) rfl rfl fun z22 hz22 => ?_
        refine Ev.step (j := 15) (s' := ([some (.int z10), some (.int z11), some (.int z12)], [.int z22], (0, 0), hp5)) rfl rfl ?_
        refine bs_zret rfl rfl (by omega) (by omega) ?_
        rw [← hQ13]
        refine (show Ev _ 22 ([some (.ref 69), none, none, none, none, none, none], [.int z22], (0, 0), hp5) _ from ?_)
        refine bs_ifeq rfl (fun c23 => ?_) (fun c23 => ?_)
        · exfalso; omega
        · skip
          refine Ev.step (j := 26) (s' := ([some (.ref 69), none, none, none, none, none, none], [.ref 69], (0, 0), hp5)) rfl rfl ?_
          refine bs_lit (k := 0) rfl rfl fun z24 hz24 => ?_
          refine Ev.inl (L := L_X11_octet) (nL := 2) rfl (bs_rcv (g := 11) Hhp5 (bs_R.uq Hhp5 (g := 11) rfl) (by decide) rfl) rfl (Nat.le_of_ble_eq_true rfl) ?_
          generalize hQ25 : (fun (o : ab_O) => Ev _ _ _ _) = Q25
          refine (show Ev (ab_T L_X11_octet) 0 ([some (.ref 69), some (.int z24)], [], (0, 0), hp5) Q25 from ?_)
          refine Ev.step (j := 1) (s' := ([some (.ref 69), some (.int z24)], [.ref 69], (0, 0), hp5)) rfl rfl ?_
          refine bs_getU (g := 11) (g1 := 131) rfl rfl Hhp5 (bs_R.uq Hhp5 (g := 11) rfl) (by decide) rfl rfl ?_
          refine Ev.step (j := 5) (s' := ([some (.ref 69), some (.int z24)], [.int z24, .ref 70], (0, 0), hp5)) rfl rfl ?_
          refine bs_ld (g := 131) 0 939 (-2147483648, 2147483647) rfl Hhp5 (bs_R.uq Hhp5 (g := 131) rfl) (by decide) rfl (by decide) (by decide) rfl (by decide) (by omega) (by omega) fun z26 hz26 lz26 gz26 => ?_
          dsimp only at lz26 gz26
          replace hz26 := bs_at hz26 (show z24.toInt.toNat = 0 by omega)
          refine bs_lit (k := 255) rfl rfl fun z27 hz27 => ?_
          refine bs_andF rfl (by omega) fun z28 qz28 hz28 gz28 => ?_
          refine Ev.ret rfl rfl ?_
          rw [← hQ25]
          refine (show Ev _ 30 ([some (.ref 69), none, none, none, none, none, none], [.int z28], (0, 0), hp5) _ from ?_)
          refine bs_lit (k := 1) rfl rfl fun z29 hz29 => ?_
          refine bs_le rfl (fun c30 => ?_) (fun c30 => ?_)
          · skip
            refine bs_lit (k := 0) rfl rfl fun z31 hz31 => ?_
            refine Ev.step (j := 38) (s' := ([some (.ref 69), some (.int z31), none, none, none, none, none], [], (0, 0), hp5)) rfl rfl ?_
            refine bs_lit (k := 0) rfl rfl fun z32 hz32 => ?_
            refine Ev.step (j := 40) (s' := ([some (.ref 69), some (.int z31), some (.int z32), none, none, none, none], [], (0, 0), hp5)) rfl rfl ?_
            refine bs_loop (ι := Int32 × Int32 × (Option Value) × (Option Value) × (Option Value) × (Option Value) × ab_H × (Nat → Nat)) (fun ⟨k33, k34, o37, o38, o39, o40, hp35, t36⟩ => ([some (.ref 69), some (.int k33), some (.int k34), o37, o38, o39, o40], [], (0, 0), hp35)) (fun ⟨k33, k34, o37, o38, o39, o40, hp35, t36⟩ => (sf_h t36 hp35) ∧ (sf_fr [(11, 0, 0), (11, 2, 5), (999, 0, 0)] t hp t36 hp35) ∧ (sf_rd hp35 70 0 = some z26.toInt) ∧ (sf_rd hp35 69 3 = some z10.toInt) ∧ (0 ≤ k34.toInt ∧ k34.toInt ≤ 6)) (fun ⟨k33, k34, o37, o38, o39, o40, hp35, t36⟩ => (6 - k34.toInt).toNat) ?_ (z31, z32, none, none, none, none, hp5, thp5) ⟨Hhp5, Fhp5, hz26, hz10, (by first | omega | assumption)⟩
            rintro ⟨k33, k34, o37, o38, o39, o40, hp35, t36⟩ ⟨Hhp35, Fhp35, i42, i43, i44⟩ ih41
            refine (show Ev _ 40 ([some (.ref 69), some (.int k33), some (.int k34), o37, o38, o39, o40], [], (0, 0), hp35) _ from ?_)
            refine Ev.step (j := 41) (s' := ([some (.ref 69), some (.int k33), some (.int k34), o37, o38, o39, o40], [.int k34], (0, 0), hp35)) rfl rfl ?_
            refine Ev.step (j := 42) (s' := ([some (.ref 69), some (.int k33), some (.int k34), o37, o38, o39, o40], [.ref 69, .int k34], (0, 0), hp35)) rfl rfl ?_
            refine bs_getU (g := 11) (g1 := 132) rfl rfl Hhp35 (bs_R.uq Hhp35 (g := 11) rfl) (by decide) rfl rfl ?_
            refine bs_lit (k := 0) rfl rfl fun z45 hz45 => ?_
            refine bs_ld (g := 132) 0 0 (0, 6) rfl Hhp35 (bs_R.uq Hhp35 (g := 132) rfl) (by decide) rfl (by decide) (by decide) rfl (by decide) (by omega) (by omega) fun z46 hz46 lz46 gz46 => ?_
            dsimp only at lz46 gz46
            replace hz46 := bs_at hz46 (show z45.toInt.toNat = 0 by omega)
            refine bs_ge rfl (fun c47 => ?_) (fun c47 => ?_)
            · skip
              refine Ev.step (j := 171) (s' := ([some (.ref 69), some (.int k33), some (.int k34), o37, o38, o39, o40], [.int k33], (0, 0), hp35)) rfl rfl ?_
              exact Ev.ret rfl rfl (by rw [hQ]; exact ⟨t36, Hhp35, Fhp35, bs_an0, sf_S_nil⟩)
            · skip
              refine Ev.step (j := 51) (s' := ([some (.ref 69), some (.int k33), some (.int k34), o37, o38, o39, o40], [.int k34], (0, 0), hp35)) rfl rfl ?_
              refine Ev.step (j := 52) (s' := ([some (.ref 69), some (.int k33), some (.int k34), o37, o38, o39, o40], [.ref 69, .int k34], (0, 0), hp35)) rfl rfl ?_
              refine bs_lit (k := 0) rfl rfl fun z48 hz48 => ?_
              refine Ev.inl (L := L_X11_octet) (nL := 2) rfl (bs_rcv (g := 11) Hhp35 (bs_R.uq Hhp35 (g := 11) rfl) (by decide) rfl) rfl (Nat.le_of_ble_eq_true rfl) ?_
              generalize hQ49 : (fun (o : ab_O) => Ev _ _ _ _) = Q49
              refine (show Ev (ab_T L_X11_octet) 0 ([some (.ref 69), some (.int z48)], [], (0, 0), hp35) Q49 from ?_)
              refine Ev.step (j := 1) (s' := ([some (.ref 69), some (.int z48)], [.ref 69], (0, 0), hp35)) rfl rfl ?_
              refine bs_getU (g := 11) (g1 := 131) rfl rfl Hhp35 (bs_R.uq Hhp35 (g := 11) rfl) (by decide) rfl rfl ?_
              refine Ev.step (j := 5) (s' := ([some (.ref 69), some (.int z48)], [.int z48, .ref 70], (0, 0), hp35)) rfl rfl ?_
              refine bs_ld (g := 131) 0 939 (-2147483648, 2147483647) rfl Hhp35 (bs_R.uq Hhp35 (g := 131) rfl) (by decide) rfl (by decide) (by decide) rfl (by decide) (by omega) (by omega) fun z50 hz50 lz50 gz50 => ?_
              dsimp only at lz50 gz50
              replace hz50 := bs_at hz50 (show z48.toInt.toNat = 0 by omega)
              have e51 : z50.toInt = z26.toInt := Option.some.inj (hz50.symm.trans i42)
              refine bs_lit (k := 255) rfl rfl fun z52 hz52 => ?_
              refine bs_andF rfl (by omega) fun z53 qz53 hz53 gz53 => ?_
              have e54 : z53.toInt = z28.toInt := and_same qz53 qz28 (by omega) (by omega)
              refine Ev.ret rfl rfl ?_
              rw [← hQ49]
              refine (show Ev _ 56 ([some (.ref 69), some (.int k33), some (.int k34), o37, o38, o39, o40], [.int z53, .int k34], (0, 0), hp35) _ from ?_)
              refine Ev.inlS (L := L_X11_cell) (nL := 2) rfl rfl (Nat.le_of_ble_eq_true rfl) ?_
              generalize hQ55 : (fun (o : ab_O) => Ev _ _ _ _) = Q55
              refine (show Ev (ab_T L_X11_cell) 0 ([some (.int k34), some (.int z53)], [], (0, 0), hp35) Q55 from ?_)
              refine bs_lit (k := 2) rfl rfl fun z56 hz56 => ?_
              refine Ev.step (j := 2) (s' := ([some (.int k34), some (.int z53)], [.int k34, .int z56], (0, 0), hp35)) rfl rfl ?_
              refine bs_mul (2) rfl (Or.inl hz56) (by rw [hz56]; omega) (by rw [hz56]; omega) fun z57 hz57 => ?_
              rw [hz56] at hz57
              refine Ev.step (j := 4) (s' := ([some (.int k34), some (.int z53)], [.int z53, .int z57], (0, 0), hp35)) rfl rfl ?_
              first | (refine bs_add rfl (by omega) (by omega) fun z58 hz58 => ?_) | (refine bs_any rfl fun z58 => ?_)
              have rz58 := n_range z58
              refine Ev.ret rfl rfl ?_
              rw [← hQ55]
              refine (show Ev _ 59 ([some (.ref 69), some (.int k33), some (.int k34), o37, o38, o39, o40], [.int z58], (0, 0), hp35) _ from ?_)
              refine Ev.step (j := 60) (s' := ([some (.ref 69), some (.int k33), some (.int k34), some (.int z58), o38, o39, o40], [], (0, 0), hp35)) rfl rfl ?_
              refine bs_lit (k := 1) rfl rfl fun z59 hz59 => ?_
              refine Ev.step (j := 63) (s' := ([some (.ref 69), some (.int k33), some (.int k34), some (.int z58), some (.int z59), o39, o40], [], (0, 0), hp35)) rfl rfl ?_
              refine bs_lit (k := 2) rfl rfl fun z60 hz60 => ?_
              refine Ev.step (j := 66) (s' := ([some (.ref 69), some (.int k33), some (.int k34), some (.int z58), some (.int z59), some (.int z60), o40], [], (0, 0), hp35)) rfl rfl ?_
              refine bs_loop (ι := Int32 × Int32 × (Option Value) × ab_H × (Nat → Nat)) (fun ⟨k61, k62, o65, hp63, t64⟩ => ([some (.ref 69), some (.int k33), some (.int k34), some (.int z58), some (.int k61), some (.int k62), o65], [], (0, 0), hp63)) (fun ⟨k61, k62, o65, hp63, t64⟩ => (sf_h t64 hp63) ∧ (sf_fr [(11, 0, 0), (11, 2, 5), (999, 0, 0)] t hp t64 hp63) ∧ (sf_rd hp63 70 0 = some z26.toInt) ∧ (sf_rd hp63 69 3 = some z10.toInt) ∧ (2 ≤ k62.toInt ∧ k62.toInt ≤ 31)) (fun ⟨k61, k62, o65, hp63, t64⟩ => (31 - k62.toInt).toNat) ?_ (z59, z60, o40, hp35, t36) ⟨Hhp35, Fhp35, i42, i43, (by first | omega | assumption)⟩
              rintro ⟨k61, k62, o65, hp63, t64⟩ ⟨Hhp63, Fhp63, i67, i68, i69⟩ ih66
              refine (show Ev _ 66 ([some (.ref 69), some (.int k33), some (.int k34), some (.int z58), some (.int k61), some (.int k62), o65], [], (0, 0), hp63) _ from ?_)
              refine Ev.step (j := 68) (s' := ([some (.ref 69), some (.int k33), some (.int k34), some (.int z58), some (.int k61), some (.int k62), o65], [.int k62], (0, 0), hp63)) rfl rfl ?_
              refine Ev.step (j := 69) (s' := ([some (.ref 69), some (.int k33), some (.int k34), some (.int z58), some (.int k61), some (.int k62), o65], [.ref 69, .int k62], (0, 0), hp63)) rfl rfl ?_
              refine bs_getI 11 rfl rfl rfl Hhp63 (bs_R.uq Hhp63 (g := 11) rfl) (by decide) rfl fun z70 hz70 lz70 gz70 => ?_
              have e71 : z70.toInt = z10.toInt := Option.some.inj (hz70.symm.trans i68)
              refine bs_ge rfl (fun c72 => ?_) (fun c72 => ?_)
              · skip
                refine Ev.step (j := 150) (s' := ([some (.ref 69), some (.int k33), some (.int k34), some (.int z58), some (.int k61), some (.int k62), o65], [.int k33], (0, 0), hp63)) rfl rfl ?_
                refine Ev.step (j := 152) (s' := ([some (.ref 69), some (.int k33), some (.int k34), some (.int z58), some (.int k61), some (.int k62), o65], [.int k61, .int k33], (0, 0), hp63)) rfl rfl ?_
                refine bs_ifeq rfl (fun c73 => ?_) (fun c73 => ?_)
                · skip
                  have c74 : k61.toInt = 0 := by omega
                  refine bs_lit (k := 0) rfl rfl fun z75 hz75 => ?_
                  refine bs_any rfl fun z76 => ?_
                  have rz76 := n_range z76
                  refine Ev.step (j := 164) (s' := ([some (.ref 69), some (.int z76), some (.int k34), some (.int z58), some (.int k61), some (.int k62), o65], [], (0, 0), hp63)) rfl rfl ?_
                  refine bs_iinc (1) rfl rfl rfl rfl (by omega) (by omega) fun z77 hz77 => ?_
                  refine (show Ev _ 167 ([some (.ref 69), some (.int z76), some (.int z77), some (.int z58), some (.int k61), some (.int k62), o65], [], (0, 0), hp63) _ from ?_)
                  refine Ev.step (j := 40) (s' := ([some (.ref 69), some (.int z76), some (.int z77), some (.int z58), some (.int k61), some (.int k62), o65], [], (0, 0), hp63)) rfl rfl ?_
                  refine ih41 (z76, z77, (some (.int z58)), (some (.int k61)), (some (.int k62)), o65, hp63, t64) ⟨Hhp63, Fhp63, i67, i68, (by first | omega | assumption)⟩ ?_
                  show (6 - z77.toInt).toNat < (6 - k34.toInt).toNat
                  omega
                · skip
                  refine bs_lit (k := 1) rfl rfl fun z78 hz78 => ?_
                  refine Ev.step (j := 157) (s' := ([some (.ref 69), some (.int k33), some (.int k34), some (.int z58), some (.int k61), some (.int k62), o65], [.int k34, .int z78, .int k33], (0, 0), hp63)) rfl rfl ?_
                  refine bs_any rfl fun z79 => ?_
                  have rz79 := n_range z79
                  refine Ev.step (j := 162) (s' := ([some (.ref 69), some (.int k33), some (.int k34), some (.int z58), some (.int k61), some (.int k62), o65], [.int z79, .int k33], (0, 0), hp63)) rfl rfl ?_
                  refine bs_any rfl fun z80 => ?_
                  have rz80 := n_range z80
                  refine Ev.step (j := 164) (s' := ([some (.ref 69), some (.int z80), some (.int k34), some (.int z58), some (.int k61), some (.int k62), o65], [], (0, 0), hp63)) rfl rfl ?_
                  refine bs_iinc (1) rfl rfl rfl rfl (by omega) (by omega) fun z81 hz81 => ?_
                  refine (show Ev _ 167 ([some (.ref 69), some (.int z80), some (.int z81), some (.int z58), some (.int k61), some (.int k62), o65], [], (0, 0), hp63) _ from ?_)
                  refine Ev.step (j := 40) (s' := ([some (.ref 69), some (.int z80), some (.int z81), some (.int z58), some (.int k61), some (.int k62), o65], [], (0, 0), hp63)) rfl rfl ?_
                  refine ih41 (z80, z81, (some (.int z58)), (some (.int k61)), (some (.int k62)), o65, hp63, t64) ⟨Hhp63, Fhp63, i67, i68, (by first | omega | assumption)⟩ ?_
                  show (6 - z81.toInt).toNat < (6 - k34.toInt).toNat
                  omega
              · skip
                refine bs_lit (k := 999) rfl rfl fun z82 hz82 => ?_
                refine Ev.step (j := 79) (s' := ([some (.ref 69), some (.int k33), some (.int k34), some (.int z58), some (.int k61), some (.int k62), o65], [.ref 69, .int z82], (0, 0), hp63)) rfl rfl ?_
                refine Ev.step (j := 81) (s' := ([some (.ref 69), some (.int k33), some (.int k34), some (.int z58), some (.int k61), some (.int k62), o65], [.int k62, .ref 69, .int z82], (0, 0), hp63)) rfl rfl ?_
                refine bs_lit (k := 1) rfl rfl fun z83 hz83 => ?_
                first | (refine bs_sub rfl (by omega) (by omega) fun z84 hz84 => ?_) | (refine bs_any rfl fun z84 => ?_)
                have rz84 := n_range z84
                refine Ev.inl (L := L_X11_octet) (nL := 2) rfl (bs_rcv (g := 11) Hhp63 (bs_R.uq Hhp63 (g := 11) rfl) (by decide) rfl) rfl (Nat.le_of_ble_eq_true rfl) ?_
                generalize hQ85 : (fun (o : ab_O) => Ev _ _ _ _) = Q85
                refine (show Ev (ab_T L_X11_octet) 0 ([some (.ref 69), some (.int z84)], [], (0, 0), hp63) Q85 from ?_)
                refine Ev.step (j := 1) (s' := ([some (.ref 69), some (.int z84)], [.ref 69], (0, 0), hp63)) rfl rfl ?_
                refine bs_getU (g := 11) (g1 := 131) rfl rfl Hhp63 (bs_R.uq Hhp63 (g := 11) rfl) (by decide) rfl rfl ?_
                refine Ev.step (j := 5) (s' := ([some (.ref 69), some (.int z84)], [.int z84, .ref 70], (0, 0), hp63)) rfl rfl ?_
                refine bs_ld (g := 131) 0 939 (-2147483648, 2147483647) rfl Hhp63 (bs_R.uq Hhp63 (g := 131) rfl) (by decide) rfl (by decide) (by decide) rfl (by decide) (by omega) (by omega) fun z86 hz86 lz86 gz86 => ?_
                dsimp only at lz86 gz86
                refine bs_lit (k := 255) rfl rfl fun z87 hz87 => ?_
                refine bs_andF rfl (by omega) fun z88 qz88 hz88 gz88 => ?_
                refine Ev.ret rfl rfl ?_
                rw [← hQ85]
                refine (show Ev _ 86 ([some (.ref 69), some (.int k33), some (.int k34), some (.int z58), some (.int k61), some (.int k62), o65], [.int z88, .int z82], (0, 0), hp63) _ from ?_)
                refine Ev.step (j := 87) (s' := ([some (.ref 69), some (.int k33), some (.int k34), some (.int z58), some (.int k61), some (.int k62), o65], [.ref 69, .int z88, .int z82], (0, 0), hp63)) rfl rfl ?_
                refine bs_getU (g := 11) (g1 := 132) rfl rfl Hhp63 (bs_R.uq Hhp63 (g := 11) rfl) (by decide) rfl rfl ?_
                refine bs_lit (k := 40) rfl rfl fun z89 hz89 => ?_
                refine Ev.step (j := 93) (s' := ([some (.ref 69), some (.int k33), some (.int k34), some (.int z58), some (.int k61), some (.int k62), o65], [.int z58, .int z89, .ref 71, .int z88, .int z82], (0, 0), hp63)) rfl rfl ?_
                first | (refine bs_add rfl (by omega) (by omega) fun z90 hz90 => ?_) | (refine bs_any rfl fun z90 => ?_)
                have rz90 := n_range z90
                refine bs_ld (g := 132) 40 51 (0, 250) rfl Hhp63 (bs_R.uq Hhp63 (g := 132) rfl) (by decide) rfl (by decide) (by decide) rfl (by decide) (by omega) (by omega) fun z91 hz91 lz91 gz91 => ?_
                dsimp only at lz91 gz91
                first | (refine bs_add rfl (by omega) (by omega) fun z92 hz92 => ?_) | (refine bs_any rfl fun z92 => ?_)
                have rz92 := n_range z92
                refine bs_pure [.int z82, .int z92] [] rfl rfl rfl rfl px_lesser fun z93 hz93 => ?_
                refine (show Ev _ 99 ([some (.ref 69), some (.int k33), some (.int k34), some (.int z58), some (.int k61), some (.int k62), o65], [.int z93], (0, 0), hp63) _ from ?_)
                refine Ev.step (j := 100) (s' := ([some (.ref 69), some (.int k33), some (.int k34), some (.int z58), some (.int k61), some (.int k62), o65], [.ref 69, .int z93], (0, 0), hp63)) rfl rfl ?_
                refine bs_getU (g := 11) (g1 := 132) rfl rfl Hhp63 (bs_R.uq Hhp63 (g := 11) rfl) (by decide) rfl rfl ?_
                refine bs_lit (k := 28) rfl rfl fun z94 hz94 => ?_
                refine Ev.step (j := 106) (s' := ([some (.ref 69), some (.int k33), some (.int k34), some (.int z58), some (.int k61), some (.int k62), o65], [.int z58, .int z94, .ref 71, .int z93], (0, 0), hp63)) rfl rfl ?_
                first | (refine bs_add rfl (by omega) (by omega) fun z95 hz95 => ?_) | (refine bs_any rfl fun z95 => ?_)
                have rz95 := n_range z95
                refine bs_ld (g := 132) 28 39 (0, 250) rfl Hhp63 (bs_R.uq Hhp63 (g := 132) rfl) (by decide) rfl (by decide) (by decide) rfl (by decide) (by omega) (by omega) fun z96 hz96 lz96 gz96 => ?_
                dsimp only at lz96 gz96
                first | (refine bs_sub rfl (by omega) (by omega) fun z97 hz97 => ?_) | (refine bs_any rfl fun z97 => ?_)
                have rz97 := n_range z97
                refine Ev.step (j := 111) (s' := ([some (.ref 69), some (.int k33), some (.int k34), some (.int z58), some (.int k61), some (.int k62), some (.int z97)], [], (0, 0), hp63)) rfl rfl ?_
                refine Ev.step (j := 113) (s' := ([some (.ref 69), some (.int k33), some (.int k34), some (.int z58), some (.int k61), some (.int k62), some (.int z97)], [.int k61], (0, 0), hp63)) rfl rfl ?_
                refine bs_ifeq rfl (fun c98 => ?_) (fun c98 => ?_)
                · skip
                  have c99 : k61.toInt = 0 := by omega
                  refine bs_lit (k := 0) rfl rfl fun z100 hz100 => ?_
                  refine Ev.step (j := 143) (s' := ([some (.ref 69), some (.int k33), some (.int k34), some (.int z58), some (.int z100), some (.int k62), some (.int z97)], [], (0, 0), hp63)) rfl rfl ?_
                  refine bs_iinc (1) rfl rfl rfl rfl (by omega) (by omega) fun z101 hz101 => ?_
                  refine (show Ev _ 146 ([some (.ref 69), some (.int k33), some (.int k34), some (.int z58), some (.int z100), some (.int z101), some (.int z97)], [], (0, 0), hp63) _ from ?_)
                  refine Ev.step (j := 66) (s' := ([some (.ref 69), some (.int k33), some (.int k34), some (.int z58), some (.int z100), some (.int z101), some (.int z97)], [], (0, 0), hp63)) rfl rfl ?_
                  refine ih66 (z100, z101, (some (.int z97)), hp63, t64) ⟨Hhp63, Fhp63, i67, i68, (by first | omega | assumption)⟩ ?_
                  show (31 - z101.toInt).toNat < (31 - k62.toInt).toNat
                  omega
                · skip
                  refine Ev.step (j := 117) (s' := ([some (.ref 69), some (.int k33), some (.int k34), some (.int z58), some (.int k61), some (.int k62), some (.int z97)], [.ref 69], (0, 0), hp63)) rfl rfl ?_
                  refine Ev.step (j := 119) (s' := ([some (.ref 69), some (.int k33), some (.int k34), some (.int z58), some (.int k61), some (.int k62), some (.int z97)], [.int k62, .ref 69], (0, 0), hp63)) rfl rfl ?_
                  refine Ev.inl (L := L_X11_octet) (nL := 2) rfl (bs_rcv (g := 11) Hhp63 (bs_R.uq Hhp63 (g := 11) rfl) (by decide) rfl) rfl (Nat.le_of_ble_eq_true rfl) ?_
                  generalize hQ102 : (fun (o : ab_O) => Ev _ _ _ _) = Q102
                  refine (show Ev (ab_T L_X11_octet) 0 ([some (.ref 69), some (.int k62)], [], (0, 0), hp63) Q102 from ?_)
                  refine Ev.step (j := 1) (s' := ([some (.ref 69), some (.int k62)], [.ref 69], (0, 0), hp63)) rfl rfl ?_
                  refine bs_getU (g := 11) (g1 := 131) rfl rfl Hhp63 (bs_R.uq Hhp63 (g := 11) rfl) (by decide) rfl rfl ?_
                  refine Ev.step (j := 5) (s' := ([some (.ref 69), some (.int k62)], [.int k62, .ref 70], (0, 0), hp63)) rfl rfl ?_
                  refine bs_ld (g := 131) 0 939 (-2147483648, 2147483647) rfl Hhp63 (bs_R.uq Hhp63 (g := 131) rfl) (by decide) rfl (by decide) (by decide) rfl (by decide) (by omega) (by omega) fun z103 hz103 lz103 gz103 => ?_
                  dsimp only at lz103 gz103
                  refine bs_lit (k := 255) rfl rfl fun z104 hz104 => ?_
                  refine bs_andF rfl (by omega) fun z105 qz105 hz105 gz105 => ?_
                  refine Ev.ret rfl rfl ?_
                  rw [← hQ102]
                  refine (show Ev _ 122 ([some (.ref 69), some (.int k33), some (.int k34), some (.int z58), some (.int k61), some (.int k62), some (.int z97)], [.int z105], (0, 0), hp63) _ from ?_)
                  refine Ev.step (j := 124) (s' := ([some (.ref 69), some (.int k33), some (.int k34), some (.int z58), some (.int k61), some (.int k62), some (.int z97)], [.int z97, .int z105], (0, 0), hp63)) rfl rfl ?_
                  refine bs_ifge rfl (fun c106 => ?_) (fun c106 => ?_)
                  · skip
                    refine Ev.step (j := 133) (s' := ([some (.ref 69), some (.int k33), some (.int k34), some (.int z58), some (.int k61), some (.int k62), some (.int z97)], [.int z97, .int z105], (0, 0), hp63)) rfl rfl ?_
                    refine bs_ne rfl (fun c107 => ?_) (fun c107 => ?_)
                    · skip
                      refine bs_lit (k := 0) rfl rfl fun z108 hz108 => ?_
                      refine Ev.step (j := 143) (s' := ([some (.ref 69), some (.int k33), some (.int k34), some (.int z58), some (.int z108), some (.int k62), some (.int z97)], [], (0, 0), hp63)) rfl rfl ?_
                      refine bs_iinc (1) rfl rfl rfl rfl (by omega) (by omega) fun z109 hz109 => ?_
                      refine (show Ev _ 146 ([some (.ref 69), some (.int k33), some (.int k34), some (.int z58), some (.int z108), some (.int z109), some (.int z97)], [], (0, 0), hp63) _ from ?_)
                      refine Ev.step (j := 66) (s' := ([some (.ref 69), some (.int k33), some (.int k34), some (.int z58), some (.int z108), some (.int z109), some (.int z97)], [], (0, 0), hp63)) rfl rfl ?_
                      refine ih66 (z108, z109, (some (.int z97)), hp63, t64) ⟨Hhp63, Fhp63, i67, i68, (by first | omega | assumption)⟩ ?_
                      show (31 - z109.toInt).toNat < (31 - k62.toInt).toNat
                      omega
                    · skip
                      refine bs_lit (k := 1) rfl rfl fun z110 hz110 => ?_
                      refine Ev.step (j := 141) (s' := ([some (.ref 69), some (.int k33), some (.int k34), some (.int z58), some (.int k61), some (.int k62), some (.int z97)], [.int z110], (0, 0), hp63)) rfl rfl ?_
                      refine Ev.step (j := 143) (s' := ([some (.ref 69), some (.int k33), some (.int k34), some (.int z58), some (.int z110), some (.int k62), some (.int z97)], [], (0, 0), hp63)) rfl rfl ?_
                      refine bs_iinc (1) rfl rfl rfl rfl (by omega) (by omega) fun z111 hz111 => ?_
                      refine (show Ev _ 146 ([some (.ref 69), some (.int k33), some (.int k34), some (.int z58), some (.int z110), some (.int z111), some (.int z97)], [], (0, 0), hp63) _ from ?_)
                      refine Ev.step (j := 66) (s' := ([some (.ref 69), some (.int k33), some (.int k34), some (.int z58), some (.int z110), some (.int z111), some (.int z97)], [], (0, 0), hp63)) rfl rfl ?_
                      refine ih66 (z110, z111, (some (.int z97)), hp63, t64) ⟨Hhp63, Fhp63, i67, i68, (by first | omega | assumption)⟩ ?_
                      show (31 - z111.toInt).toNat < (31 - k62.toInt).toNat
                      omega
                  · skip
                    refine bs_lit (k := 0) rfl rfl fun z112 hz112 => ?_
                    refine Ev.step (j := 133) (s' := ([some (.ref 69), some (.int k33), some (.int k34), some (.int z58), some (.int k61), some (.int k62), some (.int z97)], [.int z112, .int z105], (0, 0), hp63)) rfl rfl ?_
                    refine bs_ne rfl (fun c113 => ?_) (fun c113 => ?_)
                    · skip
                      refine bs_lit (k := 0) rfl rfl fun z114 hz114 => ?_
                      refine Ev.step (j := 143) (s' := ([some (.ref 69), some (.int k33), some (.int k34), some (.int z58), some (.int z114), some (.int k62), some (.int z97)], [], (0, 0), hp63)) rfl rfl ?_
                      refine bs_iinc (1) rfl rfl rfl rfl (by omega) (by omega) fun z115 hz115 => ?_
                      refine (show Ev _ 146 ([some (.ref 69), some (.int k33), some (.int k34), some (.int z58), some (.int z114), some (.int z115), some (.int z97)], [], (0, 0), hp63) _ from ?_)
                      refine Ev.step (j := 66) (s' := ([some (.ref 69), some (.int k33), some (.int k34), some (.int z58), some (.int z114), some (.int z115), some (.int z97)], [], (0, 0), hp63)) rfl rfl ?_
                      refine ih66 (z114, z115, (some (.int z97)), hp63, t64) ⟨Hhp63, Fhp63, i67, i68, (by first | omega | assumption)⟩ ?_
                      show (31 - z115.toInt).toNat < (31 - k62.toInt).toNat
                      omega
                    · skip
                      have c116 : z105.toInt = 0 := by omega
                      refine bs_lit (k := 1) rfl rfl fun z117 hz117 => ?_
                      refine Ev.step (j := 141) (s' := ([some (.ref 69), some (.int k33), some (.int k34), some (.int z58), some (.int k61), some (.int k62), some (.int z97)], [.int z117], (0, 0), hp63)) rfl rfl ?_
                      refine Ev.step (j := 143) (s' := ([some (.ref 69), some (.int k33), some (.int k34), some (.int z58), some (.int z117), some (.int k62), some (.int z97)], [], (0, 0), hp63)) rfl rfl ?_
                      refine bs_iinc (1) rfl rfl rfl rfl (by omega) (by omega) fun z118 hz118 => ?_
                      refine (show Ev _ 146 ([some (.ref 69), some (.int k33), some (.int k34), some (.int z58), some (.int z117), some (.int z118), some (.int z97)], [], (0, 0), hp63) _ from ?_)
                      refine Ev.step (j := 66) (s' := ([some (.ref 69), some (.int k33), some (.int k34), some (.int z58), some (.int z117), some (.int z118), some (.int z97)], [], (0, 0), hp63)) rfl rfl ?_
                      refine ih66 (z117, z118, (some (.int z97)), hp63, t64) ⟨Hhp63, Fhp63, i67, i68, (by first | omega | assumption)⟩ ?_
                      show (31 - z118.toInt).toNat < (31 - k62.toInt).toNat
                      omega
          · skip
            refine bs_lit (k := -1) rfl rfl fun z119 hz119 => ?_
            exact Ev.ret rfl rfl (by rw [hQ]; exact ⟨thp5, Hhp5, Fhp5, bs_an0, sf_S_nil⟩)
