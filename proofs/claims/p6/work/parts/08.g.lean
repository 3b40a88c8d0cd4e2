-- 63.b05.lean.txt
section
def kq_X11_without_h : sf_Q := ([(1, 11, 0), (0, 0, 0), (0, 0, 0), (0, 0, 0), (0, 0, 0)], [], some (0, 0, 0), [], [(11, 0, 0), (11, 22, 22), (132, 120, 252), (139, 0, 132)])
set_option maxRecDepth 100000 in
set_option maxHeartbeats 4000000 in
theorem ct_X11_without_h : sf_ct kq_X11_without_h Z_X11_without := by
  intro t hp as H hl hj hpre
  match as, hl with
  | [v0, v1, v2, v3, v4], _ =>
    obtain ⟨a0, rfl, ra0⟩ := bs_aR (hj 0 _ rfl)
    obtain rfl := ra0.eq H (p := 69) rfl
    obtain ⟨x1, rfl⟩ := bs_aI (hj 1 _ rfl)
    have rg1 := n_range x1
    obtain ⟨x2, rfl⟩ := bs_aI (hj 2 _ rfl)
    have rg2 := n_range x2
    obtain ⟨x3, rfl⟩ := bs_aI (hj 3 _ rfl)
    have rg3 := n_range x3
    obtain ⟨x4, rfl⟩ := bs_aI (hj 4 _ rfl)
    have rg4 := n_range x4
    clear hpre hj
    have F0 : sf_fr [(11, 0, 0), (11, 22, 22), (132, 120, 252), (139, 0, 132)] t hp t hp := sf_fr_rf
    refine bs_fin (K := kq_X11_without_h) (L := (L_X11_without Z_X11_isPlace Z_X11_isIn Z_X11_tries Z_X11_cell Z_X11_goesOn Z_X11_back)) (nL := 10) (Nat.le_of_ble_eq_true rfl) ?_
    obtain ⟨Q, hQ⟩ : ∃ Q : ab_O → Prop, Q = (fun o => ∃ t', sf_h t' o.2 ∧ sf_fr (kq_X11_without_h).2.2.2.2 t hp t' o.2 ∧ sf_an t' o.2.1 (kq_X11_without_h).2.2.1 o.1 ∧ sf_S (sf_v1 o.1 [.ref 69, .int x1, .int x2, .int x3, .int x4] o.2) (kq_X11_without_h).2.2.2.1) := ⟨_, rfl⟩
    rw [← hQ]
    refine (show Ev (ab_T (L_X11_without Z_X11_isPlace Z_X11_isIn Z_X11_tries Z_X11_cell Z_X11_goesOn Z_X11_back)) 0 ([some (.ref 69), some (.int x1), some (.int x2), some (.int x3), some (.int x4), none, none, none, none, none], [], (0, 0), hp) Q from ?_)
    refine Ev.step (j := 1) (s' := ([some (.ref 69), some (.int x1), some (.int x2), some (.int x3), some (.int x4), none, none, none, none, none], [.ref 69], (0, 0), hp)) rfl rfl ?_
    refine bs_lit (k := 0) rfl rfl fun z1 hz1 => ?_
    refine bs_putI (W := [(11, 0, 0)]) (g := 11) rfl rfl H (bs_R.uq H (g := 11) rfl) (by decide) rfl rfl rfl rfl (Or.inl rfl) (by omega) (by omega) fun hp2 Hhp2 fhp2 rhp2 ehp2 qhp2 nhp2 => ?_
    have Fhp2 := sf_fr_tr F0 (sf_fr_wider (W := [(11, 0, 0), (11, 22, 22), (132, 120, 252), (139, 0, 132)]) rfl fhp2)
    refine Ev.step (j := 6) (s' := ([some (.ref 69), some (.int x1), some (.int x2), some (.int x3), some (.int x4), none, none, none, none, none], [.ref 69], (0, 0), hp2)) rfl rfl ?_
    refine Ev.step (j := 7) (s' := ([some (.ref 69), some (.int x1), some (.int x2), some (.int x3), some (.int x4), none, none, none, none, none], [.int x1, .ref 69], (0, 0), hp2)) rfl rfl ?_
    refine Ev.step (j := 8) (s' := ([some (.ref 69), some (.int x1), some (.int x2), some (.int x3), some (.int x4), none, none, none, none, none], [.int x2, .int x1, .ref 69], (0, 0), hp2)) rfl rfl ?_
    refine Ev.inl (L := (L_X11_isPlace Z_X11_isGood Z_X11_isShore)) (nL := 3) rfl (bs_rcv (g := 11) Hhp2 (bs_R.uq Hhp2 (g := 11) rfl) (by decide) rfl) rfl (Nat.le_of_ble_eq_true rfl) ?_
    generalize hQ3 : (fun (o : ab_O) => Ev _ _ _ _) = Q3
    refine (show Ev (ab_T (L_X11_isPlace Z_X11_isGood Z_X11_isShore)) 0 ([some (.ref 69), some (.int x1), some (.int x2)], [], (0, 0), hp2) Q3 from ?_)
    refine Ev.step (j := 1) (s' := ([some (.ref 69), some (.int x1), some (.int x2)], [.ref 69], (0, 0), hp2)) rfl rfl ?_
    refine Ev.step (j := 2) (s' := ([some (.ref 69), some (.int x1), some (.int x2)], [.int x1, .ref 69], (0, 0), hp2)) rfl rfl ?_
    refine Ev.inl (L := (L_X11_isGood Z_X11_isIn)) (nL := 2) rfl (bs_rcv (g := 11) Hhp2 (bs_R.uq Hhp2 (g := 11) rfl) (by decide) rfl) rfl (Nat.le_of_ble_eq_true rfl) ?_
    generalize hQ4 : (fun (o : ab_O) => Ev _ _ _ _) = Q4
    refine (show Ev (ab_T (L_X11_isGood Z_X11_isIn)) 0 ([some (.ref 69), some (.int x1)], [], (0, 0), hp2) Q4 from ?_)
    refine Ev.step (j := 1) (s' := ([some (.ref 69), some (.int x1)], [.int x1], (0, 0), hp2)) rfl rfl ?_
    refine bs_lit (k := 0) rfl rfl fun z5 hz5 => ?_
    refine Ev.step (j := 3) (s' := ([some (.ref 69), some (.int x1)], [.ref 69, .int z5, .int x1], (0, 0), hp2)) rfl rfl ?_
    refine bs_getU (g := 11) (g1 := 132) rfl rfl Hhp2 (bs_R.uq Hhp2 (g := 11) rfl) (by decide) rfl rfl ?_
    refine bs_lit (k := 0) rfl rfl fun z6 hz6 => ?_
    refine bs_ld (g := 132) 0 0 (0, 6) rfl Hhp2 (bs_R.uq Hhp2 (g := 132) rfl) (by decide) rfl (by decide) (by decide) rfl (by decide) (by omega) (by omega) fun z7 hz7 lz7 gz7 => ?_
    dsimp only at lz7 gz7
    replace hz7 := bs_at hz7 (show z6.toInt.toNat = 0 by omega)
    refine bs_lit (k := 1) rfl rfl fun z8 hz8 => ?_
    first | (refine bs_sub rfl (by omega) (by omega) fun z9 hz9 => ?_) | (refine bs_any rfl fun z9 => ?_)
    have rz9 := n_range z9
    refine Ev.inlS (L := L_X11_isIn) (nL := 3) rfl rfl (Nat.le_of_ble_eq_true rfl) ?_
    generalize hQ10 : (fun (o : ab_O) => Ev _ _ _ _) = Q10
    refine (show Ev (ab_T L_X11_isIn) 0 ([some (.int x1), some (.int z5), some (.int z9)], [], (0, 0), hp2) Q10 from ?_)
    refine Ev.step (j := 1) (s' := ([some (.int x1), some (.int z5), some (.int z9)], [.int x1], (0, 0), hp2)) rfl rfl ?_
    refine Ev.step (j := 2) (s' := ([some (.int x1), some (.int z5), some (.int z9)], [.int z5, .int x1], (0, 0), hp2)) rfl rfl ?_
    refine bs_lt rfl (fun c11 => ?_) (fun c11 => ?_)
    · skip
      refine bs_lit (k := 0) rfl rfl fun z12 hz12 => ?_
      refine bs_zret rfl rfl (by omega) (by omega) ?_
      rw [← hQ10]
      refine (show Ev _ 13 ([some (.ref 69), some (.int x1)], [.int z12], (0, 0), hp2) _ from ?_)
      refine bs_zret rfl rfl (by omega) (by omega) ?_
      rw [← hQ4]
      refine (show Ev _ 5 ([some (.ref 69), some (.int x1), some (.int x2)], [.int z12], (0, 0), hp2) _ from ?_)
      refine bs_ifeq rfl (fun c13 => ?_) (fun c13 => ?_)
      · skip
        refine bs_lit (k := 0) rfl rfl fun z14 hz14 => ?_
        refine bs_zret rfl rfl (by omega) (by omega) ?_
        rw [← hQ3]
        refine (show Ev _ 11 ([some (.ref 69), some (.int x1), some (.int x2), some (.int x3), some (.int x4), none, none, none, none, none], [.int z14], (0, 0), hp2) _ from ?_)
        refine bs_ifeq rfl (fun c15 => ?_) (fun c15 => ?_)
        · skip
          refine bs_lit (k := -1) rfl rfl fun z16 hz16 => ?_
          exact Ev.ret rfl rfl (by rw [hQ]; exact ⟨t, Hhp2, Fhp2, bs_an0, sf_S_nil⟩)
        · exfalso; omega
      · exfalso; omega
    · skip
      refine Ev.step (j := 6) (s' := ([some (.int x1), some (.int z5), some (.int z9)], [.int x1], (0, 0), hp2)) rfl rfl ?_
      refine Ev.step (j := 7) (s' := ([some (.int x1), some (.int z5), some (.int z9)], [.int z9, .int x1], (0, 0), hp2)) rfl rfl ?_
      refine bs_gt rfl (fun c17 => ?_) (fun c17 => ?_)
      · skip
        refine bs_lit (k := 0) rfl rfl fun z18 hz18 => ?_
        refine bs_zret rfl rfl (by omega) (by omega) ?_
        rw [← hQ10]
        refine (show Ev _ 13 ([some (.ref 69), some (.int x1)], [.int z18], (0, 0), hp2) _ from ?_)
        refine bs_zret rfl rfl (by omega) (by omega) ?_
        rw [← hQ4]
        refine (show Ev _ 5 ([some (.ref 69), some (.int x1), some (.int x2)], [.int z18], (0, 0), hp2) _ from ?_)
        refine bs_ifeq rfl (fun c19 => ?_) (fun c19 => ?_)
        · skip
          refine bs_lit (k := 0) rfl rfl fun z20 hz20 => ?_
          refine bs_zret rfl rfl (by omega) (by omega) ?_
          rw [← hQ3]
          refine (show Ev _ 11 ([some (.ref 69), some (.int x1), some (.int x2), some (.int x3), some (.int x4), none, none, none, none, none], [.int z20], (0, 0), hp2) _ from ?_)
          refine bs_ifeq rfl (fun c21 => ?_) (fun c21 => ?_)
          · skip
            refine bs_lit (k := -1) rfl rfl fun z22 hz22 => ?_
            exact Ev.ret rfl rfl (by rw [hQ]; exact ⟨t, Hhp2, Fhp2, bs_an0, sf_S_nil⟩)
          · exfalso; omega
        · exfalso; omega
      · skip
        refine bs_lit (k := 1) rfl rfl fun z23 hz23 => ?_
        refine Ev.step (j := 15) (s' := ([some (.int x1), some (.int z5), some (.int z9)], [.int z23], (0, 0), hp2)) rfl rfl ?_
        refine bs_zret rfl rfl (by omega) (by omega) ?_
        rw [← hQ10]
        refine (show Ev _ 13 ([some (.ref 69), some (.int x1)], [.int z23], (0, 0), hp2) _ from ?_)
        refine bs_zret rfl rfl (by omega) (by omega) ?_
        rw [← hQ4]
        refine (show Ev _ 5 ([some (.ref 69), some (.int x1), some (.int x2)], [.int z23], (0, 0), hp2) _ from ?_)
        refine bs_ifeq rfl (fun c24 => ?_) (fun c24 => ?_)
        · exfalso; omega
        · skip
          refine Ev.step (j := 9) (s' := ([some (.ref 69), some (.int x1), some (.int x2)], [.ref 69], (0, 0), hp2)) rfl rfl ?_
          refine Ev.step (j := 10) (s' := ([some (.ref 69), some (.int x1), some (.int x2)], [.int x2, .ref 69], (0, 0), hp2)) rfl rfl ?_
          refine Ev.inl (L := (L_X11_isShore Z_X11_isIn)) (nL := 2) rfl (bs_rcv (g := 11) Hhp2 (bs_R.uq Hhp2 (g := 11) rfl) (by decide) rfl) rfl (Nat.le_of_ble_eq_true rfl) ?_
          generalize hQ25 : (fun (o : ab_O) => Ev _ _ _ _) = Q25
          refine (show Ev (ab_T (L_X11_isShore Z_X11_isIn)) 0 ([some (.ref 69), some (.int x2)], [], (0, 0), hp2) Q25 from ?_)
          refine Ev.step (j := 1) (s' := ([some (.ref 69), some (.int x2)], [.int x2], (0, 0), hp2)) rfl rfl ?_
          refine bs_lit (k := 0) rfl rfl fun z26 hz26 => ?_
          refine bs_lit (k := 1) rfl rfl fun z27 hz27 => ?_
          refine Ev.inlS (L := L_X11_isIn) (nL := 3) rfl rfl (Nat.le_of_ble_eq_true rfl) ?_
          generalize hQ28 : (fun (o : ab_O) => Ev _ _ _ _) = Q28
          refine (show Ev (ab_T L_X11_isIn) 0 ([some (.int x2), some (.int z26), some (.int z27)], [], (0, 0), hp2) Q28 from ?_)
          refine Ev.step (j := 1) (s' := ([some (.int x2), some (.int z26), some (.int z27)], [.int x2], (0, 0), hp2)) rfl rfl ?_
          refine Ev.step (j := 2) (s' := ([some (.int x2), some (.int z26), some (.int z27)], [.int z26, .int x2], (0, 0), hp2)) rfl rfl ?_
          refine bs_lt rfl (fun c29 => ?_) (fun c29 => ?_)
          · skip
            refine bs_lit (k := 0) rfl rfl fun z30 hz30 => ?_
            refine bs_zret rfl rfl (by omega) (by omega) ?_
            rw [← hQ28]
            refine (show Ev _ 6 ([some (.ref 69), some (.int x2)], [.int z30], (0, 0), hp2) _ from ?_)
            refine bs_zret rfl rfl (by omega) (by omega) ?_
            rw [← hQ25]
            refine (show Ev _ 13 ([some (.ref 69), some (.int x1), some (.int x2)], [.int z30], (0, 0), hp2) _ from ?_)
            refine bs_ifeq rfl (fun c31 => ?_) (fun c31 => ?_)
            · skip
              refine bs_lit (k := 0) rfl rfl fun z32 hz32 => ?_
              refine bs_zret rfl rfl (by omega) (by omega) ?_
              rw [← hQ3]
              refine (show Ev _ 11 ([some (.ref 69), some (.int x1), some (.int x2), some (.int x3), some (.int x4), none, none, none, none, none], [.int z32], (0, 0), hp2) _ from ?_)
              refine bs_ifeq rfl (fun c33 => ?_) (fun c33 => ?_)
              · skip
                refine bs_lit (k := -1) rfl rfl fun z34 hz34 => ?_
                exact Ev.ret rfl rfl (by rw [hQ]; exact ⟨t, Hhp2, Fhp2, bs_an0, sf_S_nil⟩)
              · exfalso; omega
            · exfalso; omega
          · skip
            refine Ev.step (j := 6) (s' := ([some (.int x2), some (.int z26), some (.int z27)], [.int x2], (0, 0), hp2)) rfl rfl ?_
            refine Ev.step (j := 7) (s' := ([some (.int x2), some (.int z26), some (.int z27)], [.int z27, .int x2], (0, 0), hp2)) rfl rfl ?_
            refine bs_gt rfl (fun c35 => ?_) (fun c35 => ?_)
            · skip
              refine bs_lit (k := 0) rfl rfl fun z36 hz36 => ?_
              refine bs_zret rfl rfl (by omega) (by omega) ?_
              rw [← hQ28]
              refine (show Ev _ 6 ([some (.ref 69), some (.int x2)], [.int z36], (0, 0), hp2) _ from ?_)
              refine bs_zret rfl rfl (by omega) (by omega) ?_
              rw [← hQ25]
              refine (show Ev _ 13 ([some (.ref 69), some (.int x1), some (.int x2)], [.int z36], (0, 0), hp2) _ from ?_)
              refine bs_ifeq rfl (fun c37 => ?_) (fun c37 => ?_)
              · skip
                refine bs_lit (k := 0) rfl rfl fun z38 hz38 => ?_
                refine bs_zret rfl rfl (by omega) (by omega) ?_
                rw [← hQ3]
                refine (show Ev _ 11 ([some (.ref 69), some (.int x1), some (.int x2), some (.int x3), some (.int x4), none, none, none, none, none], [.int z38], (0, 0), hp2) _ from ?_)
                refine bs_ifeq rfl (fun c39 => ?_) (fun c39 => ?_)
                · skip
                  refine bs_lit (k := -1) rfl rfl fun z40 hz40 => ?_
                  exact Ev.ret rfl rfl (by rw [hQ]; exact ⟨t, Hhp2, Fhp2, bs_an0, sf_S_nil⟩)
                · exfalso; omega
              · exfalso; omega
            · skip
              refine bs_lit (k := 1) rfl rfl fun z41 hz41 => ?_
              refine Ev.step (j := 15) (s' := ([some (.int x2), some (.int z26), some (.int z27)], [.int z41], (0, 0), hp2)) rfl rfl ?_
              refine bs_zret rfl rfl (by omega) (by omega) ?_
              rw [← hQ28]
              refine (show Ev _ 6 ([some (.ref 69), some (.int x2)], [.int z41], (0, 0), hp2) _ from ?_)
              refine bs_zret rfl rfl (by omega) (by omega) ?_
              rw [← hQ25]
              refine (show Ev _ 13 ([some (.ref 69), some (.int x1), some (.int x2)], [.int z41], (0, 0), hp2) _ from ?_)
              refine bs_ifeq rfl (fun c42 => ?_) (fun c42 => ?_)
              · exfalso; omega
              · skip
                refine bs_lit (k := 1) rfl rfl fun z43 hz43 => ?_
                refine Ev.step (j := 21) (s' := ([some (.ref 69), some (.int x1), some (.int x2)], [.int z43], (0, 0), hp2)) rfl rfl ?_
                refine bs_zret rfl rfl (by omega) (by omega) ?_
                rw [← hQ3]
                refine (show Ev _ 11 ([some (.ref 69), some (.int x1), some (.int x2), some (.int x3), some (.int x4), none, none, none, none, none], [.int z43], (0, 0), hp2) _ from ?_)
                refine bs_ifeq rfl (fun c44 => ?_) (fun c44 => ?_)
                · exfalso; omega
                · skip
                  refine Ev.step (j := 15) (s' := ([some (.ref 69), some (.int x1), some (.int x2), some (.int x3), some (.int x4), none, none, none, none, none], [.int x3], (0, 0), hp2)) rfl rfl ?_
                  refine bs_lit (k := 1) rfl rfl fun z45 hz45 => ?_
                  refine bs_lit (k := 250) rfl rfl fun z46 hz46 => ?_
                  refine Ev.inlS (L := L_X11_isIn) (nL := 3) rfl rfl (Nat.le_of_ble_eq_true rfl) ?_
                  generalize hQ47 : (fun (o : ab_O) => Ev _ _ _ _) = Q47
                  refine (show Ev (ab_T L_X11_isIn) 0 ([some (.int x3), some (.int z45), some (.int z46)], [], (0, 0), hp2) Q47 from ?_)
                  refine Ev.step (j := 1) (s' := ([some (.int x3), some (.int z45), some (.int z46)], [.int x3], (0, 0), hp2)) rfl rfl ?_
                  refine Ev.step (j := 2) (s' := ([some (.int x3), some (.int z45), some (.int z46)], [.int z45, .int x3], (0, 0), hp2)) rfl rfl ?_
                  refine bs_lt rfl (fun c48 => ?_) (fun c48 => ?_)
                  · skip
                    refine bs_lit (k := 0) rfl rfl fun z49 hz49 => ?_
                    refine bs_zret rfl rfl (by omega) (by omega) ?_
                    rw [← hQ47]
                    refine (show Ev _ 22 ([some (.ref 69), some (.int x1), some (.int x2), some (.int x3), some (.int x4), none, none, none, none, none], [.int z49], (0, 0), hp2) _ from ?_)
                    refine bs_ifeq rfl (fun c50 => ?_) (fun c50 => ?_)
                    · skip
                      refine bs_lit (k := -1) rfl rfl fun z51 hz51 => ?_
                      exact Ev.ret rfl rfl (by rw [hQ]; exact ⟨t, Hhp2, Fhp2, bs_an0, sf_S_nil⟩)
                    · exfalso; omega
                  · skip
                    refine Ev.step (j := 6) (s' := ([some (.int x3), some (.int z45), some (.int z46)], [.int x3], (0, 0), hp2)) rfl rfl ?_
                    refine Ev.step (j := 7) (s' := ([some (.int x3), some (.int z45), some (.int z46)], [.int z46, .int x3], (0, 0), hp2)) rfl rfl ?_
                    refine bs_gt rfl (fun c52 => ?_) (fun c52 => ?_)
                    · skip
                      refine bs_lit (k := 0) rfl rfl fun z53 hz53 => ?_
                      refine bs_zret rfl rfl (by omega) (by omega) ?_
                      rw [← hQ47]
                      refine (show Ev _ 22 ([some (.ref 69), some (.int x1), some (.int x2), some (.int x3), some (.int x4), none, none, none, none, none], [.int z53], (0, 0), hp2) _ from ?_)
                      refine bs_ifeq rfl (fun c54 => ?_) (fun c54 => ?_)
                      · skip
                        refine bs_lit (k := -1) rfl rfl fun z55 hz55 => ?_
                        exact Ev.ret rfl rfl (by rw [hQ]; exact ⟨t, Hhp2, Fhp2, bs_an0, sf_S_nil⟩)
                      · exfalso; omega
                    · skip
                      refine bs_lit (k := 1) rfl rfl fun z56 hz56 => ?_
                      refine Ev.step (j := 15) (s' := ([some (.int x3), some (.int z45), some (.int z46)], [.int z56], (0, 0), hp2)) rfl rfl ?_
                      refine bs_zret rfl rfl (by omega) (by omega) ?_
                      rw [← hQ47]
                      refine (show Ev _ 22 ([some (.ref 69), some (.int x1), some (.int x2), some (.int x3), some (.int x4), none, none, none, none, none], [.int z56], (0, 0), hp2) _ from ?_)
                      refine bs_ifeq rfl (fun c57 => ?_) (fun c57 => ?_)
                      · exfalso; omega
                      · skip
                        refine Ev.step (j := 27) (s' := ([some (.ref 69), some (.int x1), some (.int x2), some (.int x3), some (.int x4), none, none, none, none, none], [.int x4], (0, 0), hp2)) rfl rfl ?_
                        refine bs_lit (k := 1) rfl rfl fun z58 hz58 => ?_
                        refine bs_lit (k := 60) rfl rfl fun z59 hz59 => ?_
                        refine Ev.inlS (L := L_X11_isIn) (nL := 3) rfl rfl (Nat.le_of_ble_eq_true rfl) ?_
                        generalize hQ60 : (fun (o : ab_O) => Ev _ _ _ _) = Q60
                        refine (show Ev (ab_T L_X11_isIn) 0 ([some (.int x4), some (.int z58), some (.int z59)], [], (0, 0), hp2) Q60 from ?_)
                        refine Ev.step (j := 1) (s' := ([some (.int x4), some (.int z58), some (.int z59)], [.int x4], (0, 0), hp2)) rfl rfl ?_
                        refine Ev.step (j := 2) (s' := ([some (.int x4), some (.int z58), some (.int z59)], [.int z58, .int x4], (0, 0), hp2)) rfl rfl ?_
                        refine bs_lt rfl (fun c61 => ?_) (fun c61 => ?_)
                        · skip
                          refine bs_lit (k := 0) rfl rfl fun z62 hz62 => ?_
                          refine bs_zret rfl rfl (by omega) (by omega) ?_
                          rw [← hQ60]
                          refine (show Ev _ 33 ([some (.ref 69), some (.int x1), some (.int x2), some (.int x3), some (.int x4), none, none, none, none, none], [.int z62], (0, 0), hp2) _ from ?_)
                          refine bs_ifne rfl (fun c63 => ?_) (fun c63 => ?_)
                          · exfalso; omega
                          · skip
                            refine bs_lit (k := -1) rfl rfl fun z64 hz64 => ?_
                            exact Ev.ret rfl rfl (by rw [hQ]; exact ⟨t, Hhp2, Fhp2, bs_an0, sf_S_nil⟩)
                        · skip
                          refine Ev.step (j := 6) (s' := ([some (.int x4), some (.int z58), some (.int z59)], [.int x4], (0, 0), hp2)) rfl rfl ?_
                          refine Ev.step (j := 7) (s' := ([some (.int x4), some (.int z58), some (.int z59)], [.int z59, .int x4], (0, 0), hp2)) rfl rfl ?_
                          refine bs_gt rfl (fun c65 => ?_) (fun c65 => ?_)
                          · skip
                            refine bs_lit (k := 0) rfl rfl fun z66 hz66 => ?_
                            refine bs_zret rfl rfl (by omega) (by omega) ?_
                            rw [← hQ60]
                            refine (show Ev _ 33 ([some (.ref 69), some (.int x1), some (.int x2), some (.int x3), some (.int x4), none, none, none, none, none], [.int z66], (0, 0), hp2) _ from ?_)
                            refine bs_ifne rfl (fun c67 => ?_) (fun c67 => ?_)
                            · exfalso; omega
                            · skip
                              refine bs_lit (k := -1) rfl rfl fun z68 hz68 => ?_
                              exact Ev.ret rfl rfl (by rw [hQ]; exact ⟨t, Hhp2, Fhp2, bs_an0, sf_S_nil⟩)
                          · skip
                            refine bs_lit (k := 1) rfl rfl fun z69 hz69 => ?_
                            refine Ev.step (j := 15) (s' := ([some (.int x4), some (.int z58), some (.int z59)], [.int z69], (0, 0), hp2)) rfl rfl ?_
                            refine bs_zret rfl rfl (by omega) (by omega) ?_
                            rw [← hQ60]
                            refine (show Ev _ 33 ([some (.ref 69), some (.int x1), some (.int x2), some (.int x3), some (.int x4), none, none, none, none, none], [.int z69], (0, 0), hp2) _ from ?_)
                            refine bs_ifne rfl (fun c70 => ?_) (fun c70 => ?_)
                            · skip
                              refine Ev.step (j := 39) (s' := ([some (.ref 69), some (.int x1), some (.int x2), some (.int x3), some (.int x4), none, none, none, none, none], [.ref 69], (0, 0), hp2)) rfl rfl ?_
                              refine Ev.inl (L := L_X11_tries) (nL := 2) rfl (bs_rcv (g := 11) Hhp2 (bs_R.uq Hhp2 (g := 11) rfl) (by decide) rfl) rfl (Nat.le_of_ble_eq_true rfl) ?_
                              generalize hQ71 : (fun (o : ab_O) => Ev _ _ _ _) = Q71
                              refine (show Ev (ab_T L_X11_tries) 0 ([some (.ref 69), none], [], (0, 0), hp2) Q71 from ?_)
                              refine bs_lit (k := 0) rfl rfl fun z72 hz72 => ?_
                              refine Ev.step (j := 2) (s' := ([some (.ref 69), some (.int z72)], [], (0, 0), hp2)) rfl rfl ?_
                              refine bs_loop (ι := Int32 × ab_H × (Nat → Nat)) (fun ⟨k73, hp74, t75⟩ => ([some (.ref 69), some (.int k73)], [], (0, 0), hp74)) (fun ⟨k73, hp74, t75⟩ => (sf_h t75 hp74) ∧ (sf_fr [(11, 0, 0), (11, 22, 22), (132, 120, 252), (139, 0, 132)] t hp t75 hp74) ∧ (0 ≤ k73.toInt ∧ k73.toInt ≤ 133) ∧ (∀ j : Nat, (j : Int) < k73.toInt → sf_rd hp74 78 j = sf_rd hp2 71 (120 + j)) ∧ (∀ q : Nat, sf_rd hp74 71 q = sf_rd hp2 71 q)) (fun ⟨k73, hp74, t75⟩ => (133 - k73.toInt).toNat) ?_ (z72, hp2, t) ⟨Hhp2, Fhp2, (by first | omega | assumption), (by first | exact TB | exact fun j hj => absurd hj (by omega)), (by first | exact TC | exact fun q => rfl)⟩
                              rintro ⟨k73, hp74, t75⟩ ⟨Hhp74, Fhp74, i77, i78, i79⟩ ih76
                              refine (show Ev _ 2 ([some (.ref 69), some (.int k73)], [], (0, 0), hp74) _ from ?_)
                              refine Ev.step (j := 3) (s' := ([some (.ref 69), some (.int k73)], [.int k73], (0, 0), hp74)) rfl rfl ?_
                              refine bs_lit (k := 133) rfl rfl fun z80 hz80 => ?_
                              refine bs_ge rfl (fun c81 => ?_) (fun c81 => ?_)
                              · skip
                                refine Ev.ret rfl rfl ?_
                                rw [← hQ71]
                                refine (show Ev _ 42 ([some (.ref 69), some (.int x1), some (.int x2), some (.int x3), some (.int x4), none, none, none, none, none], [], (0, 0), hp74) _ from ?_)
                                refine Ev.step (j := 43) (s' := ([some (.ref 69), some (.int x1), some (.int x2), some (.int x3), some (.int x4), none, none, none, none, none], [.int x1], (0, 0), hp74)) rfl rfl ?_
                                refine Ev.step (j := 44) (s' := ([some (.ref 69), some (.int x1), some (.int x2), some (.int x3), some (.int x4), none, none, none, none, none], [.int x2, .int x1], (0, 0), hp74)) rfl rfl ?_
                                refine Ev.inlS (L := L_X11_cell) (nL := 2) rfl rfl (Nat.le_of_ble_eq_true rfl) ?_
                                generalize hQ82 : (fun (o : ab_O) => Ev _ _ _ _) = Q82
                                refine (show Ev (ab_T L_X11_cell) 0 ([some (.int x1), some (.int x2)], [], (0, 0), hp74) Q82 from ?_)
                                refine bs_lit (k := 2) rfl rfl fun z83 hz83 => ?_
                                refine Ev.step (j := 2) (s' := ([some (.int x1), some (.int x2)], [.int x1, .int z83], (0, 0), hp74)) rfl rfl ?_
                                refine bs_mul (2) rfl (Or.inl hz83) (by rw [hz83]; omega) (by rw [hz83]; omega) fun z84 hz84 => ?_
                                rw [hz83] at hz84
                                refine Ev.step (j := 4) (s' := ([some (.int x1), some (.int x2)], [.int x2, .int z84], (0, 0), hp74)) rfl rfl ?_
                                first | (refine bs_add rfl (by omega) (by omega) fun z85 hz85 => ?_) | (refine bs_any rfl fun z85 => ?_)
                                have rz85 := n_range z85
                                refine Ev.ret rfl rfl ?_
                                rw [← hQ82]
                                refine (show Ev _ 47 ([some (.ref 69), some (.int x1), some (.int x2), some (.int x3), some (.int x4), none, none, none, none, none], [.int z85], (0, 0), hp74) _ from ?_)
                                refine Ev.step (j := 49) (s' := ([some (.ref 69), some (.int x1), some (.int x2), some (.int x3), some (.int x4), some (.int z85), none, none, none, none], [], (0, 0), hp74)) rfl rfl ?_
                                refine Ev.step (j := 50) (s' := ([some (.ref 69), some (.int x1), some (.int x2), some (.int x3), some (.int x4), some (.int z85), none, none, none, none], [.ref 69], (0, 0), hp74)) rfl rfl ?_
                                refine bs_getU (g := 11) (g1 := 132) rfl rfl Hhp74 (bs_R.uq Hhp74 (g := 11) rfl) (by decide) rfl rfl ?_
                                refine bs_lit (k := 160) rfl rfl fun z86 hz86 => ?_
                                refine Ev.step (j := 58) (s' := ([some (.ref 69), some (.int x1), some (.int x2), some (.int x3), some (.int x4), some (.int z85), none, none, none, none], [.int z85, .int z86, .ref 71], (0, 0), hp74)) rfl rfl ?_
                                first | (refine bs_add rfl (by omega) (by omega) fun z87 hz87 => ?_) | (refine bs_any rfl fun z87 => ?_)
                                have rz87 := n_range z87
                                refine bs_ld (g := 132) 160 171 (-2147483648, 2147483647) rfl Hhp74 (bs_R.uq Hhp74 (g := 132) rfl) (by decide) rfl (by decide) (by decide) rfl (by decide) (by omega) (by omega) fun z88 hz88 lz88 gz88 => ?_
                                dsimp only at lz88 gz88
                                refine Ev.step (j := 62) (s' := ([some (.ref 69), some (.int x1), some (.int x2), some (.int x3), some (.int x4), some (.int z85), some (.int z88), none, none, none], [], (0, 0), hp74)) rfl rfl ?_
                                refine Ev.step (j := 63) (s' := ([some (.ref 69), some (.int x1), some (.int x2), some (.int x3), some (.int x4), some (.int z85), some (.int z88), none, none, none], [.ref 69], (0, 0), hp74)) rfl rfl ?_
                                refine bs_getU (g := 11) (g1 := 132) rfl rfl Hhp74 (bs_R.uq Hhp74 (g := 11) rfl) (by decide) rfl rfl ?_
                                refine bs_lit (k := 124) rfl rfl fun z89 hz89 => ?_
                                refine Ev.step (j := 70) (s' := ([some (.ref 69), some (.int x1), some (.int x2), some (.int x3), some (.int x4), some (.int z85), some (.int z88), none, none, none], [.int z85, .int z89, .ref 71], (0, 0), hp74)) rfl rfl ?_
                                first | (refine bs_add rfl (by omega) (by omega) fun z90 hz90 => ?_) | (refine bs_any rfl fun z90 => ?_)
                                have rz90 := n_range z90
                                refine bs_ld (g := 132) 124 135 (0, 999) rfl Hhp74 (bs_R.uq Hhp74 (g := 132) rfl) (by decide) rfl (by decide) (by decide) rfl (by decide) (by omega) (by omega) fun z91 hz91 lz91 gz91 => ?_
                                dsimp only at lz91 gz91
                                refine Ev.step (j := 74) (s' := ([some (.ref 69), some (.int x1), some (.int x2), some (.int x3), some (.int x4), some (.int z85), some (.int z88), some (.int z91), none, none], [], (0, 0), hp74)) rfl rfl ?_
                                have A1 : sf_rd hp74 71 (120 + (z85.toInt.toNat + 4)) = some z91.toInt := bs_at hz91 (by omega)
                                have A2 : sf_rd hp74 78 (z85.toInt.toNat + 4) = some z91.toInt := (i78 _ (by omega)).trans ((i79 _).symm.trans A1)
                                refine bs_lit (k := -1) rfl rfl fun z92 hz92 => ?_
                                refine Ev.step (j := 77) (s' := ([some (.ref 69), some (.int x1), some (.int x2), some (.int x3), some (.int x4), some (.int z85), some (.int z88), some (.int z91), some (.int z92), none], [], (0, 0), hp74)) rfl rfl ?_
                                refine bs_lit (k := 0) rfl rfl fun z93 hz93 => ?_
                                refine Ev.step (j := 80) (s' := ([some (.ref 69), some (.int x1), some (.int x2), some (.int x3), some (.int x4), some (.int z85), some (.int z88), some (.int z91), some (.int z92), some (.int z93)], [], (0, 0), hp74)) rfl rfl ?_
                                refine bs_loop (ι := Int32 × Int32 × ab_H × (Nat → Nat)) (fun ⟨k94, k95, hp96, t97⟩ => ([some (.ref 69), some (.int x1), some (.int x2), some (.int x3), some (.int x4), some (.int z85), some (.int z88), some (.int z91), some (.int k94), some (.int k95)], [], (0, 0), hp96)) (fun ⟨k94, k95, hp96, t97⟩ => (sf_h t97 hp96) ∧ (sf_fr [(11, 0, 0), (11, 22, 22), (132, 120, 252), (139, 0, 132)] t hp t97 hp96) ∧ (0 ≤ k95.toInt ∧ k95.toInt ≤ z91.toInt + 1) ∧ (sf_rd hp96 78 (z85.toInt.toNat + 4) = some z91.toInt) ∧ (sf_rd hp96 71 (120 + (z85.toInt.toNat + 4)) = some z91.toInt)) (fun ⟨k94, k95, hp96, t97⟩ => (z91.toInt + 1 - k95.toInt).toNat) ?_ (z92, z93, hp74, t75) ⟨Hhp74, Fhp74, (by first | omega | assumption), (by first | exact B1 | exact A2), (by first | exact B2 | exact A1)⟩
                                rintro ⟨k94, k95, hp96, t97⟩ ⟨Hhp96, Fhp96, i99, i100, i101⟩ ih98
                                refine (show Ev _ 80 ([some (.ref 69), some (.int x1), some (.int x2), some (.int x3), some (.int x4), some (.int z85), some (.int z88), some (.int z91), some (.int k94), some (.int k95)], [], (0, 0), hp96) _ from ?_)
                                refine Ev.step (j := 82) (s' := ([some (.ref 69), some (.int x1), some (.int x2), some (.int x3), some (.int x4), some (.int z85), some (.int z88), some (.int z91), some (.int k94), some (.int k95)], [.int k95], (0, 0), hp96)) rfl rfl ?_
                                refine Ev.step (j := 84) (s' := ([some (.ref 69), some (.int x1), some (.int x2), some (.int x3), some (.int x4), some (.int z85), some (.int z88), some (.int z91), some (.int k94), some (.int k95)], [.int z91, .int k95], (0, 0), hp96)) rfl rfl ?_
                                refine bs_gt rfl (fun c102 => ?_) (fun c102 => ?_)
                                · skip
                                  refine Ev.step (j := 148) (s' := ([some (.ref 69), some (.int x1), some (.int x2), some (.int x3), some (.int x4), some (.int z85), some (.int z88), some (.int z91), some (.int k94), some (.int k95)], [.int k94], (0, 0), hp96)) rfl rfl ?_
                                  exact Ev.ret rfl rfl (by rw [hQ]; exact ⟨t97, Hhp96, Fhp96, bs_an0, sf_S_nil⟩)
                                · skip
                                  refine Ev.step (j := 89) (s' := ([some (.ref 69), some (.int x1), some (.int x2), some (.int x3), some (.int x4), some (.int z85), some (.int z88), some (.int z91), some (.int k94), some (.int k95)], [.int k94], (0, 0), hp96)) rfl rfl ?_
                                  refine bs_ifge rfl (fun c103 => ?_) (fun c103 => ?_)
                                  · skip
                                    refine Ev.step (j := 148) (s' := ([some (.ref 69), some (.int x1), some (.int x2), some (.int x3), some (.int x4), some (.int z85), some (.int z88), some (.int z91), some (.int k94), some (.int k95)], [.int k94], (0, 0), hp96)) rfl rfl ?_
                                    exact Ev.ret rfl rfl (by rw [hQ]; exact ⟨t97, Hhp96, Fhp96, bs_an0, sf_S_nil⟩)
                                  · skip
                                    refine Ev.step (j := 93) (s' := ([some (.ref 69), some (.int x1), some (.int x2), some (.int x3), some (.int x4), some (.int z85), some (.int z88), some (.int z91), some (.int k94), some (.int k95)], [.ref 69], (0, 0), hp96)) rfl rfl ?_
                                    refine bs_getU (g := 11) (g1 := 132) rfl rfl Hhp96 (bs_R.uq Hhp96 (g := 11) rfl) (by decide) rfl rfl ?_
                                    refine bs_lit (k := 124) rfl rfl fun z104 hz104 => ?_
                                    refine Ev.step (j := 100) (s' := ([some (.ref 69), some (.int x1), some (.int x2), some (.int x3), some (.int x4), some (.int z85), some (.int z88), some (.int z91), some (.int k94), some (.int k95)], [.int z85, .int z104, .ref 71], (0, 0), hp96)) rfl rfl ?_
                                    first | (refine bs_add rfl (by omega) (by omega) fun z105 hz105 => ?_) | (refine bs_any rfl fun z105 => ?_)
                                    have rz105 := n_range z105
                                    refine Ev.step (j := 102) (s' := ([some (.ref 69), some (.int x1), some (.int x2), some (.int x3), some (.int x4), some (.int z85), some (.int z88), some (.int z91), some (.int k94), some (.int k95)], [.int z105, .ref 71, .int z105, .ref 71], (0, 0), hp96)) rfl rfl ?_
                                    refine bs_ld (g := 132) 124 135 (0, 999) rfl Hhp96 (bs_R.uq Hhp96 (g := 132) rfl) (by decide) rfl (by decide) (by decide) rfl (by decide) (by omega) (by omega) fun z106 hz106 lz106 gz106 => ?_
                                    dsimp only at lz106 gz106
                                    have ew : z106.toInt = z91.toInt := Option.some.inj ((bs_at hz106 (by omega)).symm.trans i101)
                                    refine Ev.step (j := 105) (s' := ([some (.ref 69), some (.int x1), some (.int x2), some (.int x3), some (.int x4), some (.int z85), some (.int z88), some (.int z91), some (.int k94), some (.int k95)], [.int k95, .int z106, .int z105, .ref 71], (0, 0), hp96)) rfl rfl ?_
                                    first | (refine bs_sub rfl (by omega) (by omega) fun z107 hz107 => ?_) | (refine bs_any rfl fun z107 => ?_)
                                    have rz107 := n_range z107
                                    refine bs_st (W := [(132, 124, 135)]) (g := 132) 124 135 (0, 999) rfl Hhp96 (bs_R.uq Hhp96 (g := 132) rfl) (by decide) rfl rfl (by decide) rfl rfl (by omega) (by omega) (by dsimp only; omega) (by dsimp only; omega) fun hp108 Hhp108 fhp108 rhp108 ehp108 qhp108 nhp108 => ?_
                                    have Fhp108 := sf_fr_tr Fhp96 (sf_fr_wider (W := [(11, 0, 0), (11, 22, 22), (132, 120, 252), (139, 0, 132)]) rfl fhp108)
                                    refine Ev.step (j := 108) (s' := ([some (.ref 69), some (.int x1), some (.int x2), some (.int x3), some (.int x4), some (.int z85), some (.int z88), some (.int z91), some (.int k94), some (.int k95)], [.ref 69], (0, 0), hp108)) rfl rfl ?_
                                    refine Ev.step (j := 110) (s' := ([some (.ref 69), some (.int x1), some (.int x2), some (.int x3), some (.int x4), some (.int z85), some (.int z88), some (.int z91), some (.int k94), some (.int k95)], [.int x4, .ref 69], (0, 0), hp108)) rfl rfl ?_
                                    refine bs_call (K := kq_X11_goesOn_3d45d6) [.ref 69, .int x4] [] rfl ct_X11_goesOn_3d45d6 Hhp108 rfl rfl rfl (bs_rcv (g := 11) Hhp108 (bs_R.uq Hhp108 (g := 11) rfl) (by decide) rfl) rfl ?_ (sf_S_nil) fun r109 hp110 thp110 Hhp110 fhp110 ahp110 php110 => ?_
                                    · intro q k h
                                      match q, h with
                                      | 0, h => cases h; exact bs_jR (bs_R.uq Hhp108 (g := 11) rfl)
                                      | 1, h => cases h; exact sf_j0
                                      | q + 2, h => cases h
                                    obtain ⟨z111, rfl⟩ := bs_anI ahp110
                                    have rgz111 := n_range z111
                                    have Fhp110 := sf_fr_tr Fhp108 (sf_fr_wider (W := [(11, 0, 0), (11, 22, 22), (132, 120, 252), (139, 0, 132)]) rfl fhp110)
                                    obtain ⟨uz111, vz111⟩ := bs_s1 (x := z111.toInt) rfl (php110 _ (List.mem_of_getElem? (i := 0) rfl))
                                    refine (show Ev _ 113 ([some (.ref 69), some (.int x1), some (.int x2), some (.int x3), some (.int x4), some (.int z85), some (.int z88), some (.int z91), some (.int k94), some (.int k95)], [.int z111], (0, 0), hp110) _ from ?_)
                                    refine Ev.step (j := 114) (s' := ([some (.ref 69), some (.int x1), some (.int x2), some (.int x3), some (.int x4), some (.int z85), some (.int z88), some (.int z91), some (.int k94), some (.int k95)], [], (0, 0), hp110)) rfl rfl ?_
                                    refine Ev.step (j := 115) (s' := ([some (.ref 69), some (.int x1), some (.int x2), some (.int x3), some (.int x4), some (.int z85), some (.int z88), some (.int z91), some (.int k94), some (.int k95)], [.ref 69], (0, 0), hp110)) rfl rfl ?_
                                    refine bs_getU (g := 11) (g1 := 132) rfl rfl Hhp110 (bs_R.uq Hhp110 (g := 11) rfl) (by decide) rfl rfl ?_
                                    refine bs_lit (k := 160) rfl rfl fun z112 hz112 => ?_
                                    refine Ev.step (j := 123) (s' := ([some (.ref 69), some (.int x1), some (.int x2), some (.int x3), some (.int x4), some (.int z85), some (.int z88), some (.int z91), some (.int k94), some (.int k95)], [.int z85, .int z112, .ref 71], (0, 0), hp110)) rfl rfl ?_
                                    first | (refine bs_add rfl (by omega) (by omega) fun z113 hz113 => ?_) | (refine bs_any rfl fun z113 => ?_)
                                    have rz113 := n_range z113
                                    refine bs_ld (g := 132) 160 171 (-2147483648, 2147483647) rfl Hhp110 (bs_R.uq Hhp110 (g := 132) rfl) (by decide) rfl (by decide) (by decide) rfl (by decide) (by omega) (by omega) fun z114 hz114 lz114 gz114 => ?_
                                    dsimp only at lz114 gz114
                                    refine Ev.step (j := 127) (s' := ([some (.ref 69), some (.int x1), some (.int x2), some (.int x3), some (.int x4), some (.int z85), some (.int z88), some (.int z91), some (.int k94), some (.int k95)], [.int z88, .int z114], (0, 0), hp110)) rfl rfl ?_
                                    first | (refine bs_sub rfl (by omega) (by omega) fun z115 hz115 => ?_) | (refine bs_any rfl fun z115 => ?_)
                                    have rz115 := n_range z115
                                    refine Ev.step (j := 129) (s' := ([some (.ref 69), some (.int x1), some (.int x2), some (.int x3), some (.int x4), some (.int z85), some (.int z88), some (.int z91), some (.int k94), some (.int k95)], [.int x3, .int z115], (0, 0), hp110)) rfl rfl ?_
                                    refine bs_lt rfl (fun c116 => ?_) (fun c116 => ?_)
                                    · skip
                                      refine Ev.step (j := 137) (s' := ([some (.ref 69), some (.int x1), some (.int x2), some (.int x3), some (.int x4), some (.int z85), some (.int z88), some (.int z91), some (.int k94), some (.int k95)], [.ref 69], (0, 0), hp110)) rfl rfl ?_
                                      refine Ev.inl (L := L_X11_back) (nL := 2) rfl (bs_rcv (g := 11) Hhp110 (bs_R.uq Hhp110 (g := 11) rfl) (by decide) rfl) rfl (Nat.le_of_ble_eq_true rfl) ?_
                                      generalize hQ117 : (fun (o : ab_O) => Ev _ _ _ _) = Q117
                                      refine (show Ev (ab_T L_X11_back) 0 ([some (.ref 69), none], [], (0, 0), hp110) Q117 from ?_)
                                      have B0 : sf_rd hp110 78 (z85.toInt.toNat + 4) = some z91.toInt := (((fhp110.2.2.1 _ (bs_R.uq Hhp108 (g := 139) (p := 78) rfl).1 _ (by rw [(bs_R.uq Hhp108 (g := 139) (p := 78) rfl).2]; rfl)).trans (ehp108 _ _ (Or.inl (by decide))))).trans i100
                                      refine bs_lit (k := 0) rfl rfl fun z118 hz118 => ?_
                                      refine Ev.step (j := 2) (s' := ([some (.ref 69), some (.int z118)], [], (0, 0), hp110)) rfl rfl ?_
                                      refine bs_loop (ι := Int32 × ab_H × (Nat → Nat)) (fun ⟨k119, hp120, t121⟩ => ([some (.ref 69), some (.int k119)], [], (0, 0), hp120)) (fun ⟨k119, hp120, t121⟩ => (sf_h t121 hp120) ∧ (sf_fr [(11, 0, 0), (11, 22, 22), (132, 120, 252), (139, 0, 132)] t hp t121 hp120) ∧ (0 ≤ k119.toInt ∧ k119.toInt ≤ 133) ∧ (∀ j : Nat, (j : Int) < k119.toInt → sf_rd hp120 71 (120 + j) = sf_rd hp110 78 j) ∧ (∀ q : Nat, sf_rd hp120 78 q = sf_rd hp110 78 q)) (fun ⟨k119, hp120, t121⟩ => (133 - k119.toInt).toNat) ?_ (z118, hp110, thp110) ⟨Hhp110, Fhp110, (by first | omega | assumption), (by first | exact TB | exact fun j hj => absurd hj (by omega)), (by first | exact TC | exact fun q => rfl)⟩
                                      rintro ⟨k119, hp120, t121⟩ ⟨Hhp120, Fhp120, i123, i124, i125⟩ ih122
                                      refine (show Ev _ 2 ([some (.ref 69), some (.int k119)], [], (0, 0), hp120) _ from ?_)
                                      refine Ev.step (j := 3) (s' := ([some (.ref 69), some (.int k119)], [.int k119], (0, 0), hp120)) rfl rfl ?_
                                      refine bs_lit (k := 133) rfl rfl fun z126 hz126 => ?_
                                      refine bs_ge rfl (fun c127 => ?_) (fun c127 => ?_)
                                      · skip
                                        refine Ev.ret rfl rfl ?_
                                        rw [← hQ117]
                                        refine (show Ev _ 140 ([some (.ref 69), some (.int x1), some (.int x2), some (.int x3), some (.int x4), some (.int z85), some (.int z88), some (.int z91), some (.int k94), some (.int k95)], [], (0, 0), hp120) _ from ?_)
                                        have B1 : sf_rd hp120 78 (z85.toInt.toNat + 4) = some z91.toInt := (i125 _).trans B0
                                        have B2 : sf_rd hp120 71 (120 + (z85.toInt.toNat + 4)) = some z91.toInt := (i124 _ (by omega)).trans B0
                                        refine bs_iinc (1) rfl rfl rfl rfl (by omega) (by omega) fun z128 hz128 => ?_
                                        refine (show Ev _ 143 ([some (.ref 69), some (.int x1), some (.int x2), some (.int x3), some (.int x4), some (.int z85), some (.int z88), some (.int z91), some (.int k94), some (.int z128)], [], (0, 0), hp120) _ from ?_)
                                        refine Ev.step (j := 80) (s' := ([some (.ref 69), some (.int x1), some (.int x2), some (.int x3), some (.int x4), some (.int z85), some (.int z88), some (.int z91), some (.int k94), some (.int z128)], [], (0, 0), hp120)) rfl rfl ?_
                                        refine ih98 (k94, z128, hp120, t121) ⟨Hhp120, Fhp120, (by first | omega | assumption), (by first | exact B1 | exact A2), (by first | exact B2 | exact A1)⟩ ?_
                                        show (z91.toInt + 1 - z128.toInt).toNat < (z91.toInt + 1 - k95.toInt).toNat
                                        omega
                                      · skip
                                        refine Ev.step (j := 10) (s' := ([some (.ref 69), some (.int k119)], [.ref 69], (0, 0), hp120)) rfl rfl ?_
                                        refine bs_getU (g := 11) (g1 := 132) rfl rfl Hhp120 (bs_R.uq Hhp120 (g := 11) rfl) (by decide) rfl rfl ?_
                                        refine bs_lit (k := 120) rfl rfl fun z129 hz129 => ?_
                                        refine Ev.step (j := 16) (s' := ([some (.ref 69), some (.int k119)], [.int k119, .int z129, .ref 71], (0, 0), hp120)) rfl rfl ?_
                                        first | (refine bs_add rfl (by omega) (by omega) fun z130 hz130 => ?_) | (refine bs_any rfl fun z130 => ?_)
                                        have rz130 := n_range z130
                                        refine Ev.step (j := 18) (s' := ([some (.ref 69), some (.int k119)], [.ref 69, .int z130, .ref 71], (0, 0), hp120)) rfl rfl ?_
                                        refine bs_getU (g := 11) (g1 := 139) rfl rfl Hhp120 (bs_R.uq Hhp120 (g := 11) rfl) (by decide) rfl rfl ?_
                                        refine Ev.step (j := 22) (s' := ([some (.ref 69), some (.int k119)], [.int k119, .ref 78, .int z130, .ref 71], (0, 0), hp120)) rfl rfl ?_
                                        refine bs_ldK (g := 139) rfl Hhp120 (bs_R.uq Hhp120 (g := 139) rfl) (by decide) rfl (by omega) (by show _ < ((133 : Nat) : Int); omega) fun z131 hz131 kz131 => ?_
                                        have rz131 := n_range z131
                                        have kv : ∀ n, sf_v t121 n (sf_e (sf_A 132).2.2 z130.toInt.toNat) (.int z131) := fun n => by
                                          have h1 := sg_139 k119.toInt.toNat (by omega)
                                          have h2 := sg_132 (z130.toInt.toNat - 120) (by omega)
                                          rw [show 120 + (z130.toInt.toNat - 120) = z130.toInt.toNat by omega] at h2
                                          have h3 := kz131 n
                                          rw [h1] at h3
                                          rw [h2]
                                          have e9 : 120 + (z130.toInt.toNat - 120) % 133 = 120 + k119.toInt.toNat % 133 := by omega
                                          rw [e9]
                                          exact h3
                                        refine bs_stK (W := [(132, 120, 252)]) (g := 132) 120 252 rfl Hhp120 (bs_R.uq Hhp120 (g := 132) rfl) (by decide) rfl (by decide) rfl rfl (by omega) (by omega) (kv _) fun hp132 Hhp132 fhp132 rhp132 ehp132 qhp132 nhp132 => ?_
                                        clear kv
                                        have Fhp132 := sf_fr_tr Fhp120 (sf_fr_wider (W := [(11, 0, 0), (11, 22, 22), (132, 120, 252), (139, 0, 132)]) rfl fhp132)
                                        refine bs_iinc (1) rfl rfl rfl rfl (by omega) (by omega) fun z133 hz133 => ?_
                                        refine (show Ev _ 27 ([some (.ref 69), some (.int z133)], [], (0, 0), hp132) _ from ?_)
                                        refine Ev.step (j := 2) (s' := ([some (.ref 69), some (.int z133)], [], (0, 0), hp132)) rfl rfl ?_
                                        have TB : ∀ j : Nat, (j : Int) < z133.toInt → sf_rd hp132 71 (120 + j) = sf_rd hp110 78 j := by
                                          intro j hj
                                          by_cases hji : (j : Int) < k119.toInt
                                          · exact ((ehp132 _ _ (Or.inr (by omega)))).trans (i124 j hji)
                                          · have e : j = k119.toInt.toNat := by omega
                                            subst e
                                            exact (bs_at rhp132 (by omega)).trans ((bs_at hz131 (by omega)).symm.trans (i125 _))
                                        have TC : ∀ q : Nat, sf_rd hp132 78 q = sf_rd hp110 78 q := fun q => ((ehp132 _ _ (Or.inl (by decide)))).trans (i125 q)
                                        refine ih122 (z133, hp132, t121) ⟨Hhp132, Fhp132, (by first | omega | assumption), (by first | exact TB | exact fun j hj => absurd hj (by omega)), (by first | exact TC | exact fun q => rfl)⟩ ?_
                                        show (133 - z133.toInt).toNat < (133 - k119.toInt).toNat
                                        omega
                                    · skip
                                      refine Ev.step (j := 134) (s' := ([some (.ref 69), some (.int x1), some (.int x2), some (.int x3), some (.int x4), some (.int z85), some (.int z88), some (.int z91), some (.int k94), some (.int k95)], [.int k95], (0, 0), hp110)) rfl rfl ?_
                                      refine Ev.step (j := 136) (s' := ([some (.ref 69), some (.int x1), some (.int x2), some (.int x3), some (.int x4), some (.int z85), some (.int z88), some (.int z91), some (.int k95), some (.int k95)], [], (0, 0), hp110)) rfl rfl ?_
                                      refine Ev.step (j := 137) (s' := ([some (.ref 69), some (.int x1), some (.int x2), some (.int x3), some (.int x4), some (.int z85), some (.int z88), some (.int z91), some (.int k95), some (.int k95)], [.ref 69], (0, 0), hp110)) rfl rfl ?_
                                      refine Ev.inl (L := L_X11_back) (nL := 2) rfl (bs_rcv (g := 11) Hhp110 (bs_R.uq Hhp110 (g := 11) rfl) (by decide) rfl) rfl (Nat.le_of_ble_eq_true rfl) ?_
                                      generalize hQ134 : (fun (o : ab_O) => Ev _ _ _ _) = Q134
                                      refine (show Ev (ab_T L_X11_back) 0 ([some (.ref 69), none], [], (0, 0), hp110) Q134 from ?_)
                                      have B0 : sf_rd hp110 78 (z85.toInt.toNat + 4) = some z91.toInt := (((fhp110.2.2.1 _ (bs_R.uq Hhp108 (g := 139) (p := 78) rfl).1 _ (by rw [(bs_R.uq Hhp108 (g := 139) (p := 78) rfl).2]; rfl)).trans (ehp108 _ _ (Or.inl (by decide))))).trans i100
                                      refine bs_lit (k := 0) rfl rfl fun z135 hz135 => ?_
                                      refine Ev.step (j := 2) (s' := ([some (.ref 69), some (.int z135)], [], (0, 0), hp110)) rfl rfl ?_
                                      refine bs_loop (ι := Int32 × ab_H × (Nat → Nat)) (fun ⟨k136, hp137, t138⟩ => ([some (.ref 69), some (.int k136)], [], (0, 0), hp137)) (fun ⟨k136, hp137, t138⟩ => (sf_h t138 hp137) ∧ (sf_fr [(11, 0, 0), (11, 22, 22), (132, 120, 252), (139, 0, 132)] t hp t138 hp137) ∧ (0 ≤ k136.toInt ∧ k136.toInt ≤ 133) ∧ (∀ j : Nat, (j : Int) < k136.toInt → sf_rd hp137 71 (120 + j) = sf_rd hp110 78 j) ∧ (∀ q : Nat, sf_rd hp137 78 q = sf_rd hp110 78 q)) (fun ⟨k136, hp137, t138⟩ => (133 - k136.toInt).toNat) ?_ (z135, hp110, thp110) ⟨Hhp110, Fhp110, (by first | omega | assumption), (by first | exact TB | exact fun j hj => absurd hj (by omega)), (by first | exact TC | exact fun q => rfl)⟩
                                      rintro ⟨k136, hp137, t138⟩ ⟨Hhp137, Fhp137, i140, i141, i142⟩ ih139
                                      refine (show Ev _ 2 ([some (.ref 69), some (.int k136)], [], (0, 0), hp137) _ from ?_)
                                      refine Ev.step (j := 3) (s' := ([some (.ref 69), some (.int k136)], [.int k136], (0, 0), hp137)) rfl rfl ?_
                                      refine bs_lit (k := 133) rfl rfl fun z143 hz143 => ?_
                                      refine bs_ge rfl (fun c144 => ?_) (fun c144 => ?_)
                                      · skip
                                        refine Ev.ret rfl rfl ?_
                                        rw [← hQ134]
                                        refine (show Ev _ 140 ([some (.ref 69), some (.int x1), some (.int x2), some (.int x3), some (.int x4), some (.int z85), some (.int z88), some (.int z91), some (.int k95), some (.int k95)], [], (0, 0), hp137) _ from ?_)
                                        have B1 : sf_rd hp137 78 (z85.toInt.toNat + 4) = some z91.toInt := (i142 _).trans B0
                                        have B2 : sf_rd hp137 71 (120 + (z85.toInt.toNat + 4)) = some z91.toInt := (i141 _ (by omega)).trans B0
                                        refine bs_iinc (1) rfl rfl rfl rfl (by omega) (by omega) fun z145 hz145 => ?_
                                        refine (show Ev _ 143 ([some (.ref 69), some (.int x1), some (.int x2), some (.int x3), some (.int x4), some (.int z85), some (.int z88), some (.int z91), some (.int k95), some (.int z145)], [], (0, 0), hp137) _ from ?_)
                                        refine Ev.step (j := 80) (s' := ([some (.ref 69), some (.int x1), some (.int x2), some (.int x3), some (.int x4), some (.int z85), some (.int z88), some (.int z91), some (.int k95), some (.int z145)], [], (0, 0), hp137)) rfl rfl ?_
                                        refine ih98 (k95, z145, hp137, t138) ⟨Hhp137, Fhp137, (by first | omega | assumption), (by first | exact B1 | exact A2), (by first | exact B2 | exact A1)⟩ ?_
                                        show (z91.toInt + 1 - z145.toInt).toNat < (z91.toInt + 1 - k95.toInt).toNat
                                        omega
                                      · skip
                                        refine Ev.step (j := 10) (s' := ([some (.ref 69), some (.int k136)], [.ref 69], (0, 0), hp137)) rfl rfl ?_
                                        refine bs_getU (g := 11) (g1 := 132) rfl rfl Hhp137 (bs_R.uq Hhp137 (g := 11) rfl) (by decide) rfl rfl ?_
                                        refine bs_lit (k := 120) rfl rfl fun z146 hz146 => ?_
                                        refine Ev.step (j := 16) (s' := ([some (.ref 69), some (.int k136)], [.int k136, .int z146, .ref 71], (0, 0), hp137)) rfl rfl ?_
                                        first | (refine bs_add rfl (by omega) (by omega) fun z147 hz147 => ?_) | (refine bs_any rfl fun z147 => ?_)
                                        have rz147 := n_range z147
                                        refine Ev.step (j := 18) (s' := ([some (.ref 69), some (.int k136)], [.ref 69, .int z147, .ref 71], (0, 0), hp137)) rfl rfl ?_
                                        refine bs_getU (g := 11) (g1 := 139) rfl rfl Hhp137 (bs_R.uq Hhp137 (g := 11) rfl) (by decide) rfl rfl ?_
                                        refine Ev.step (j := 22) (s' := ([some (.ref 69), some (.int k136)], [.int k136, .ref 78, .int z147, .ref 71], (0, 0), hp137)) rfl rfl ?_
                                        refine bs_ldK (g := 139) rfl Hhp137 (bs_R.uq Hhp137 (g := 139) rfl) (by decide) rfl (by omega) (by show _ < ((133 : Nat) : Int); omega) fun z148 hz148 kz148 => ?_
                                        have rz148 := n_range z148
                                        have kv : ∀ n, sf_v t138 n (sf_e (sf_A 132).2.2 z147.toInt.toNat) (.int z148) := fun n => by
                                          have h1 := sg_139 k136.toInt.toNat (by omega)
                                          have h2 := sg_132 (z147.toInt.toNat - 120) (by omega)
                                          rw [show 120 + (z147.toInt.toNat - 120) = z147.toInt.toNat by omega] at h2
                                          have h3 := kz148 n
                                          rw [h1] at h3
                                          rw [h2]
                                          have e9 : 120 + (z147.toInt.toNat - 120) % 133 = 120 + k136.toInt.toNat % 133 := by omega
                                          rw [e9]
                                          exact h3
                                        refine bs_stK (W := [(132, 120, 252)]) (g := 132) 120 252 rfl Hhp137 (bs_R.uq Hhp137 (g := 132) rfl) (by decide) rfl (by decide) rfl rfl (by omega) (by omega) (kv _) fun hp149 Hhp149 fhp149 rhp149 ehp149 qhp149 nhp149 => ?_
                                        clear kv
                                        have Fhp149 := sf_fr_tr Fhp137 (sf_fr_wider (W := [(11, 0, 0), (11, 22, 22), (132, 120, 252), (139, 0, 132)]) rfl fhp149)
                                        refine bs_iinc (1) rfl rfl rfl rfl (by omega) (by omega) fun z150 hz150 => ?_
                                        refine (show Ev _ 27 ([some (.ref 69), some (.int z150)], [], (0, 0), hp149) _ from ?_)
                                        refine Ev.step (j := 2) (s' := ([some (.ref 69), some (.int z150)], [], (0, 0), hp149)) rfl rfl ?_
                                        have TB : ∀ j : Nat, (j : Int) < z150.toInt → sf_rd hp149 71 (120 + j) = sf_rd hp110 78 j := by
                                          intro j hj
                                          by_cases hji : (j : Int) < k136.toInt
                                          · exact ((ehp149 _ _ (Or.inr (by omega)))).trans (i141 j hji)
                                          · have e : j = k136.toInt.toNat := by omega
                                            subst e
                                            exact (bs_at rhp149 (by omega)).trans ((bs_at hz148 (by omega)).symm.trans (i142 _))
                                        have TC : ∀ q : Nat, sf_rd hp149 78 q = sf_rd hp110 78 q := fun q => ((ehp149 _ _ (Or.inl (by decide)))).trans (i142 q)
                                        refine ih139 (z150, hp149, t138) ⟨Hhp149, Fhp149, (by first | omega | assumption), (by first | exact TB | exact fun j hj => absurd hj (by omega)), (by first | exact TC | exact fun q => rfl)⟩ ?_
                                        show (133 - z150.toInt).toNat < (133 - k136.toInt).toNat
                                        omega
                              · skip
                                refine Ev.step (j := 10) (s' := ([some (.ref 69), some (.int k73)], [.ref 69], (0, 0), hp74)) rfl rfl ?_
                                refine bs_getU (g := 11) (g1 := 139) rfl rfl Hhp74 (bs_R.uq Hhp74 (g := 11) rfl) (by decide) rfl rfl ?_
                                refine Ev.step (j := 14) (s' := ([some (.ref 69), some (.int k73)], [.int k73, .ref 78], (0, 0), hp74)) rfl rfl ?_
                                refine Ev.step (j := 15) (s' := ([some (.ref 69), some (.int k73)], [.ref 69, .int k73, .ref 78], (0, 0), hp74)) rfl rfl ?_
                                refine bs_getU (g := 11) (g1 := 132) rfl rfl Hhp74 (bs_R.uq Hhp74 (g := 11) rfl) (by decide) rfl rfl ?_
                                refine bs_lit (k := 120) rfl rfl fun z151 hz151 => ?_
                                refine Ev.step (j := 21) (s' := ([some (.ref 69), some (.int k73)], [.int k73, .int z151, .ref 71, .int k73, .ref 78], (0, 0), hp74)) rfl rfl ?_
                                first | (refine bs_add rfl (by omega) (by omega) fun z152 hz152 => ?_) | (refine bs_any rfl fun z152 => ?_)
                                have rz152 := n_range z152
                                refine bs_ldK (g := 132) rfl Hhp74 (bs_R.uq Hhp74 (g := 132) rfl) (by decide) rfl (by omega) (by show _ < ((434 : Nat) : Int); omega) fun z153 hz153 kz153 => ?_
                                have rz153 := n_range z153
                                have kv : ∀ n, sf_v t75 n (sf_e (sf_A 139).2.2 k73.toInt.toNat) (.int z153) := fun n => by
                                  have h1 := sg_132 (z152.toInt.toNat - 120) (by omega)
                                  have h2 := sg_139 k73.toInt.toNat (by omega)
                                  rw [show 120 + (z152.toInt.toNat - 120) = z152.toInt.toNat by omega] at h1
                                  have h3 := kz153 n
                                  rw [h1] at h3
                                  rw [h2]
                                  have e9 : 120 + k73.toInt.toNat % 133 = 120 + (z152.toInt.toNat - 120) % 133 := by omega
                                  rw [e9]
                                  exact h3
                                refine bs_stK (W := [(139, 0, 132)]) (g := 139) 0 132 rfl Hhp74 (bs_R.uq Hhp74 (g := 139) rfl) (by decide) rfl (by decide) rfl rfl (by omega) (by omega) (kv _) fun hp154 Hhp154 fhp154 rhp154 ehp154 qhp154 nhp154 => ?_
                                clear kv
                                have Fhp154 := sf_fr_tr Fhp74 (sf_fr_wider (W := [(11, 0, 0), (11, 22, 22), (132, 120, 252), (139, 0, 132)]) rfl fhp154)
                                refine bs_iinc (1) rfl rfl rfl rfl (by omega) (by omega) fun z155 hz155 => ?_
                                refine (show Ev _ 27 ([some (.ref 69), some (.int z155)], [], (0, 0), hp154) _ from ?_)
                                refine Ev.step (j := 2) (s' := ([some (.ref 69), some (.int z155)], [], (0, 0), hp154)) rfl rfl ?_
                                have TB : ∀ j : Nat, (j : Int) < z155.toInt → sf_rd hp154 78 j = sf_rd hp2 71 (120 + j) := by
                                  intro j hj
                                  by_cases hji : (j : Int) < k73.toInt
                                  · exact ((ehp154 _ _ (Or.inr (by omega)))).trans (i78 j hji)
                                  · have e : j = k73.toInt.toNat := by omega
                                    subst e
                                    exact (bs_at rhp154 (by omega)).trans ((bs_at hz153 (by omega)).symm.trans (i79 _))
                                have TC : ∀ q : Nat, sf_rd hp154 71 q = sf_rd hp2 71 q := fun q => ((ehp154 _ _ (Or.inl (by decide)))).trans (i79 q)
                                refine ih76 (z155, hp154, t75) ⟨Hhp154, Fhp154, (by first | omega | assumption), (by first | exact TB | exact fun j hj => absurd hj (by omega)), (by first | exact TC | exact fun q => rfl)⟩ ?_
                                show (133 - z155.toInt).toNat < (133 - k73.toInt).toNat
                                omega
                            · exfalso; omega
def kq_X11_lays_37dbf4 : sf_Q := ([(1, 11, 0), (0, 0, 0)], [(1, 3, 0, 0, 2, 0)], none, [], [(140, 0, 59)])
def kc_X11_lays_37dbf4 : List (Nat × sf_I) := [(0, 0, [1, 0]),
  (1, 5, [2, 2]),
  (2, 2, [3, 2]),
  (3, 0, [5, 12]),
  (5, 21, [8, 34, 5]),
  (8, 4, [9, 0]),
  (9, 23, [12, 11, 26]),
  (12, 0, [14, 20]),
  (14, 2, [15, 1]),
  (15, 9, [16, 2]),
  (16, 2, [17, 2]),
  (17, 9, [18, 0]),
  (18, 4, [19, 0]),
  (19, 23, [22, 11, 6]),
  (22, 0, [24, 124]),
  (24, 2, [25, 2]),
  (25, 9, [26, 0]),
  (26, 25, [27, 1]),
  (27, 28, [28, 1]),
  (28, 8, [31, 2, 1]),
  (31, 22, [2]),
  (34, 0, [35, 0]),
  (35, 5, [36, 2]),
  (36, 2, [37, 2]),
  (37, 0, [39, 8]),
  (39, 21, [42, 72, 5]),
  (42, 4, [43, 0]),
  (43, 23, [46, 11, 26]),
  (46, 0, [48, 20]),
  (48, 2, [49, 1]),
  (49, 9, [50, 2]),
  (50, 0, [52, 12]),
  (52, 9, [53, 0]),
  (53, 2, [54, 2]),
  (54, 9, [55, 0]),
  (55, 4, [56, 0]),
  (56, 23, [59, 11, 6]),
  (59, 0, [62, 172]),
  (62, 2, [63, 2]),
  (63, 9, [64, 0]),
  (64, 25, [65, 1]),
  (65, 28, [66, 1]),
  (66, 8, [69, 2, 1]),
  (69, 22, [36]),
  (72, 37, [0, 0])]
def kd_X11_lays_37dbf4_0 : List (Nat × sf_D × sf_M) := [(0, ([(1, 11, 0), (0, 0, 0), (8, 0, 0)], [], [(1, 4, 0, 0, 2, 0)], 0, 0), (462, [])),
  (1, ([(1, 11, 0), (0, 0, 0), (8, 0, 0)], [(0, 0, 0)], [(1, 4, 0, 0, 2, 0), (1, 0, 0, 0, 0, 0)], 0, 0), (461, [])),
  (2, ([(1, 11, 0), (0, 0, 0), (0, 0, 0)], [], [(1, 4, 0, 0, 2, 0), (1, 7, 0, 0, 12, 0)], 0, 0), (208, [(21, 7, 12, 0)])),
  (3, ([(1, 11, 0), (0, 0, 0), (0, 0, 0)], [(0, 0, 0)], [(1, 4, 0, 0, 2, 0), (1, 7, 0, 0, 12, 0), (1, 0, 0, 0, 12, 0), (2, 0, 7, 1, 0, 0)], 0, 0), (207, [(21, 7, 12, 0)])),
  (5, ([(1, 11, 0), (0, 0, 0), (0, 0, 0)], [(0, 0, 0), (0, 0, 0)], [(1, 4, 0, 0, 2, 0), (1, 7, 0, 0, 12, 0), (1, 0, 0, 0, 12, 0), (1, 3, 0, 12, 12, 0), (2, 0, 7, 1, 0, 0)], 0, 0), (206, [(21, 7, 12, 0)])),
  (8, ([(1, 11, 0), (0, 0, 0), (0, 0, 0)], [], [(1, 4, 0, 0, 2, 0), (1, 7, 0, 0, 11, 0)], 0, 0), (203, [(21, 7, 12, 0)])),
  (9, ([(1, 11, 0), (0, 0, 0), (0, 0, 0)], [(1, 11, 0)], [(1, 4, 0, 0, 2, 0), (1, 7, 0, 0, 11, 0)], 0, 0), (202, [(21, 7, 12, 0)])),
  (12, ([(1, 11, 0), (0, 0, 0), (0, 0, 0)], [(1, 140, 0)], [(1, 4, 0, 0, 2, 0), (1, 7, 0, 0, 11, 0)], 0, 0), (201, [(21, 7, 12, 0)])),
  (14, ([(1, 11, 0), (0, 0, 0), (0, 0, 0)], [(0, 0, 0), (1, 140, 0)], [(1, 4, 0, 0, 2, 0), (1, 7, 0, 0, 11, 0), (1, 3, 0, 20, 20, 0)], 0, 0), (200, [(21, 7, 12, 0)])),
  (15, ([(1, 11, 0), (0, 0, 0), (0, 0, 0)], [(0, 0, 0), (0, 0, 0), (1, 140, 0)], [(1, 4, 0, 0, 2, 0), (1, 7, 0, 0, 11, 0), (1, 3, 0, 20, 20, 0), (1, 6, 0, 0, 2, 0), (2, 6, 4, 1, 0, 0)], 0, 0), (199, [(21, 7, 12, 0)]))]
def kd_X11_lays_37dbf4_1 : List (Nat × sf_D × sf_M) := [(16, ([(1, 11, 0), (0, 0, 0), (0, 0, 0)], [(0, 0, 0), (1, 140, 0)], [(1, 4, 0, 0, 2, 0), (1, 7, 0, 0, 11, 0), (1, 3, 0, 0, 40, 0), (2, 3, 4, 20, 0, 0)], 0, 0), (198, [(21, 7, 12, 0)])),
  (17, ([(1, 11, 0), (0, 0, 0), (0, 0, 0)], [(0, 0, 0), (0, 0, 0), (1, 140, 0)], [(1, 4, 0, 0, 2, 0), (1, 7, 0, 0, 11, 0), (1, 3, 0, 0, 40, 0), (1, 6, 0, 0, 11, 0), (2, 3, 4, 20, 0, 0), (2, 6, 7, 1, 0, 0)], 0, 0), (197, [(21, 7, 12, 0)])),
  (18, ([(1, 11, 0), (0, 0, 0), (0, 0, 0)], [(0, 0, 0), (1, 140, 0)], [(1, 4, 0, 0, 2, 0), (1, 7, 0, 0, 11, 0), (1, 3, 0, 0, 51, 0)], 0, 0), (196, [(21, 7, 12, 0)])),
  (19, ([(1, 11, 0), (0, 0, 0), (0, 0, 0)], [(1, 11, 0), (0, 0, 0), (1, 140, 0)], [(1, 4, 0, 0, 2, 0), (1, 7, 0, 0, 11, 0), (1, 3, 0, 0, 51, 0)], 0, 0), (195, [(21, 7, 12, 0)])),
  (22, ([(1, 11, 0), (0, 0, 0), (0, 0, 0)], [(1, 132, 0), (0, 0, 0), (1, 140, 0)], [(1, 4, 0, 0, 2, 0), (1, 7, 0, 0, 11, 0), (1, 3, 0, 0, 51, 0)], 0, 0), (194, [(21, 7, 12, 0)])),
  (24, ([(1, 11, 0), (0, 0, 0), (0, 0, 0)], [(0, 0, 0), (1, 132, 0), (0, 0, 0), (1, 140, 0)], [(1, 4, 0, 0, 2, 0), (1, 7, 0, 0, 11, 0), (1, 3, 0, 0, 51, 0), (1, 9, 0, 124, 124, 0)], 0, 0), (193, [(21, 7, 12, 0)])),
  (25, ([(1, 11, 0), (0, 0, 0), (0, 0, 0)], [(0, 0, 0), (0, 0, 0), (1, 132, 0), (0, 0, 0), (1, 140, 0)], [(1, 4, 0, 0, 2, 0), (1, 7, 0, 0, 11, 0), (1, 3, 0, 0, 51, 0), (1, 9, 0, 124, 124, 0), (1, 12, 0, 0, 11, 0), (2, 12, 7, 1, 0, 0)], 0, 0), (192, [(21, 7, 12, 0)]))]
def kd_X11_lays_37dbf4_2 : List (Nat × sf_D × sf_M) := [(26, ([(1, 11, 0), (0, 0, 0), (0, 0, 0)], [(0, 0, 0), (1, 132, 0), (0, 0, 0), (1, 140, 0)], [(1, 4, 0, 0, 2, 0), (1, 7, 0, 0, 11, 0), (1, 3, 0, 0, 51, 0), (1, 9, 0, 124, 135, 0), (2, 9, 7, 1, 124, 0)], 0, 0), (191, [(21, 7, 12, 0)])),
  (27, ([(1, 11, 0), (0, 0, 0), (0, 0, 0)], [(0, 0, 0), (0, 0, 0), (1, 140, 0)], [(1, 4, 0, 0, 2, 0), (1, 7, 0, 0, 11, 0), (1, 3, 0, 0, 51, 0), (1, 6, 0, 0, 999, 0)], 0, 0), (190, [(21, 7, 12, 0)])),
  (28, ([(1, 11, 0), (0, 0, 0), (0, 0, 0)], [], [(1, 4, 0, 0, 2, 0), (1, 7, 0, 0, 11, 0)], 0, 0), (189, [(21, 7, 12, 0)])),
  (31, ([(1, 11, 0), (0, 0, 0), (0, 0, 0)], [], [(1, 4, 0, 0, 2, 0), (1, 7, 0, 1, 12, 0)], 0, 0), (209, [(21, 7, 12, 0)])),
  (34, ([(1, 11, 0), (0, 0, 0), (0, 0, 0)], [], [(1, 4, 0, 0, 2, 0), (1, 7, 0, 12, 12, 0)], 0, 0), (205, [])),
  (35, ([(1, 11, 0), (0, 0, 0), (0, 0, 0)], [(0, 0, 0)], [(1, 4, 0, 0, 2, 0), (1, 7, 0, 12, 12, 0), (1, 0, 0, 0, 0, 0)], 0, 0), (204, [])),
  (36, ([(1, 11, 0), (0, 0, 0), (0, 0, 0)], [], [(1, 4, 0, 0, 2, 0), (1, 7, 0, 0, 8, 0)], 0, 0), (19, [(23, 7, 8, 0)])),
  (37, ([(1, 11, 0), (0, 0, 0), (0, 0, 0)], [(0, 0, 0)], [(1, 4, 0, 0, 2, 0), (1, 7, 0, 0, 8, 0), (1, 0, 0, 0, 8, 0), (2, 0, 7, 1, 0, 0)], 0, 0), (18, [(23, 7, 8, 0)])),
  (39, ([(1, 11, 0), (0, 0, 0), (0, 0, 0)], [(0, 0, 0), (0, 0, 0)], [(1, 4, 0, 0, 2, 0), (1, 7, 0, 0, 8, 0), (1, 0, 0, 0, 8, 0), (1, 3, 0, 8, 8, 0), (2, 0, 7, 1, 0, 0)], 0, 0), (17, [(23, 7, 8, 0)]))]
def kd_X11_lays_37dbf4_3 : List (Nat × sf_D × sf_M) := [(42, ([(1, 11, 0), (0, 0, 0), (0, 0, 0)], [], [(1, 4, 0, 0, 2, 0), (1, 7, 0, 0, 7, 0)], 0, 0), (16, [(23, 7, 8, 0)])),
  (43, ([(1, 11, 0), (0, 0, 0), (0, 0, 0)], [(1, 11, 0)], [(1, 4, 0, 0, 2, 0), (1, 7, 0, 0, 7, 0)], 0, 0), (15, [(23, 7, 8, 0)])),
  (46, ([(1, 11, 0), (0, 0, 0), (0, 0, 0)], [(1, 140, 0)], [(1, 4, 0, 0, 2, 0), (1, 7, 0, 0, 7, 0)], 0, 0), (14, [(23, 7, 8, 0)])),
  (48, ([(1, 11, 0), (0, 0, 0), (0, 0, 0)], [(0, 0, 0), (1, 140, 0)], [(1, 4, 0, 0, 2, 0), (1, 7, 0, 0, 7, 0), (1, 3, 0, 20, 20, 0)], 0, 0), (13, [(23, 7, 8, 0)])),
  (49, ([(1, 11, 0), (0, 0, 0), (0, 0, 0)], [(0, 0, 0), (0, 0, 0), (1, 140, 0)], [(1, 4, 0, 0, 2, 0), (1, 7, 0, 0, 7, 0), (1, 3, 0, 20, 20, 0), (1, 6, 0, 0, 2, 0), (2, 6, 4, 1, 0, 0)], 0, 0), (12, [(23, 7, 8, 0)])),
  (50, ([(1, 11, 0), (0, 0, 0), (0, 0, 0)], [(0, 0, 0), (1, 140, 0)], [(1, 4, 0, 0, 2, 0), (1, 7, 0, 0, 7, 0), (1, 3, 0, 0, 40, 0), (2, 3, 4, 20, 0, 0)], 0, 0), (11, [(23, 7, 8, 0)])),
  (52, ([(1, 11, 0), (0, 0, 0), (0, 0, 0)], [(0, 0, 0), (0, 0, 0), (1, 140, 0)], [(1, 4, 0, 0, 2, 0), (1, 7, 0, 0, 7, 0), (1, 3, 0, 0, 40, 0), (1, 6, 0, 12, 12, 0), (2, 3, 4, 20, 0, 0)], 0, 0), (10, [(23, 7, 8, 0)])),
  (53, ([(1, 11, 0), (0, 0, 0), (0, 0, 0)], [(0, 0, 0), (1, 140, 0)], [(1, 4, 0, 0, 2, 0), (1, 7, 0, 0, 7, 0), (1, 3, 0, 12, 52, 0), (2, 3, 4, 20, 12, 0)], 0, 0), (9, [(23, 7, 8, 0)]))]
def kd_X11_lays_37dbf4_4 : List (Nat × sf_D × sf_M) := [(54, ([(1, 11, 0), (0, 0, 0), (0, 0, 0)], [(0, 0, 0), (0, 0, 0), (1, 140, 0)], [(1, 4, 0, 0, 2, 0), (1, 7, 0, 0, 7, 0), (1, 3, 0, 12, 52, 0), (1, 6, 0, 0, 7, 0), (2, 3, 4, 20, 12, 0), (2, 6, 7, 1, 0, 0)], 0, 0), (8, [(23, 7, 8, 0)])),
  (55, ([(1, 11, 0), (0, 0, 0), (0, 0, 0)], [(0, 0, 0), (1, 140, 0)], [(1, 4, 0, 0, 2, 0), (1, 7, 0, 0, 7, 0), (1, 3, 0, 12, 59, 0)], 0, 0), (7, [(23, 7, 8, 0)])),
  (56, ([(1, 11, 0), (0, 0, 0), (0, 0, 0)], [(1, 11, 0), (0, 0, 0), (1, 140, 0)], [(1, 4, 0, 0, 2, 0), (1, 7, 0, 0, 7, 0), (1, 3, 0, 12, 59, 0)], 0, 0), (6, [(23, 7, 8, 0)])),
  (59, ([(1, 11, 0), (0, 0, 0), (0, 0, 0)], [(1, 132, 0), (0, 0, 0), (1, 140, 0)], [(1, 4, 0, 0, 2, 0), (1, 7, 0, 0, 7, 0), (1, 3, 0, 12, 59, 0)], 0, 0), (5, [(23, 7, 8, 0)])),
  (62, ([(1, 11, 0), (0, 0, 0), (0, 0, 0)], [(0, 0, 0), (1, 132, 0), (0, 0, 0), (1, 140, 0)], [(1, 4, 0, 0, 2, 0), (1, 7, 0, 0, 7, 0), (1, 3, 0, 12, 59, 0), (1, 9, 0, 172, 172, 0)], 0, 0), (4, [(23, 7, 8, 0)])),
  (63, ([(1, 11, 0), (0, 0, 0), (0, 0, 0)], [(0, 0, 0), (0, 0, 0), (1, 132, 0), (0, 0, 0), (1, 140, 0)], [(1, 4, 0, 0, 2, 0), (1, 7, 0, 0, 7, 0), (1, 3, 0, 12, 59, 0), (1, 9, 0, 172, 172, 0), (1, 12, 0, 0, 7, 0), (2, 12, 7, 1, 0, 0)], 0, 0), (3, [(23, 7, 8, 0)])),
  (64, ([(1, 11, 0), (0, 0, 0), (0, 0, 0)], [(0, 0, 0), (1, 132, 0), (0, 0, 0), (1, 140, 0)], [(1, 4, 0, 0, 2, 0), (1, 7, 0, 0, 7, 0), (1, 3, 0, 12, 59, 0), (1, 9, 0, 172, 179, 0), (2, 9, 7, 1, 172, 0)], 0, 0), (2, [(23, 7, 8, 0)]))]
def kd_X11_lays_37dbf4_5 : List (Nat × sf_D × sf_M) := [(65, ([(1, 11, 0), (0, 0, 0), (0, 0, 0)], [(0, 0, 0), (0, 0, 0), (1, 140, 0)], [(1, 4, 0, 0, 2, 0), (1, 7, 0, 0, 7, 0), (1, 3, 0, 12, 59, 0), (1, 6, 0, -2147483648, 2147483647, 0)], 0, 0), (1, [(23, 7, 8, 0)])),
  (66, ([(1, 11, 0), (0, 0, 0), (0, 0, 0)], [], [(1, 4, 0, 0, 2, 0), (1, 7, 0, 0, 7, 0)], 0, 0), (0, [(23, 7, 8, 0)])),
  (69, ([(1, 11, 0), (0, 0, 0), (0, 0, 0)], [], [(1, 4, 0, 0, 2, 0), (1, 7, 0, 1, 8, 0)], 0, 0), (20, [(23, 7, 8, 0)])),
  (72, ([(1, 11, 0), (0, 0, 0), (0, 0, 0)], [], [(1, 4, 0, 0, 2, 0), (1, 7, 0, 8, 8, 0)], 0, 0), (0, []))]
def kd_X11_lays_37dbf4 : List (Nat × sf_D × sf_M) := kd_X11_lays_37dbf4_0 ++ (kd_X11_lays_37dbf4_1 ++ (kd_X11_lays_37dbf4_2 ++ (kd_X11_lays_37dbf4_3 ++ (kd_X11_lays_37dbf4_4 ++ (kd_X11_lays_37dbf4_5)))))
set_option maxRecDepth 100000 in
theorem kt_X11_lays_37dbf4 : sf_chk [] kq_X11_lays_37dbf4 3 kc_X11_lays_37dbf4 kd_X11_lays_37dbf4 = true := by decide +kernel
set_option maxRecDepth 100000 in
theorem kl_X11_lays_37dbf4 : (kc_X11_lays_37dbf4).map (fun c => (c.1, sf_den ([] : List sf_X) c.2)) = L_X11_lays := rfl
theorem ct_X11_lays_37dbf4 : sf_ct kq_X11_lays_37dbf4 Z_X11_lays := by
  have h := sf_meth (K := []) (E := []) (k := kq_X11_lays_37dbf4) (nL := 3) (C := kc_X11_lays_37dbf4) (D := kd_X11_lays_37dbf4) (fun m k hk => match m, hk with
    | _ + 0, hk => (by cases hk)) kt_X11_lays_37dbf4
  rw [kl_X11_lays_37dbf4] at h
  exact h
def kq_X11_areAlike_f82440 : sf_Q := ([(1, 11, 0), (0, 0, 0), (0, 0, 0)], [(1, 3, 0, 0, 2, 0), (1, 6, 0, 0, 2, 0)], some (0, 0, 0), [(1, 0, 0, 0, 1, 0)], [])
def kc_X11_areAlike_f82440 : List (Nat × sf_I) := [(0, 0, [1, 0]),
  (1, 5, [2, 3]),
  (2, 2, [3, 3]),
  (3, 0, [5, 20]),
  (5, 21, [8, 41, 5]),
  (8, 4, [9, 0]),
  (9, 23, [12, 11, 26]),
  (12, 0, [14, 20]),
  (14, 2, [15, 1]),
  (15, 9, [16, 2]),
  (16, 2, [17, 3]),
  (17, 9, [18, 0]),
  (18, 25, [19, 1]),
  (19, 4, [20, 0]),
  (20, 23, [23, 11, 26]),
  (23, 0, [25, 20]),
  (25, 2, [26, 2]),
  (26, 9, [27, 2]),
  (27, 2, [28, 3]),
  (28, 9, [29, 0]),
  (29, 25, [30, 1]),
  (30, 21, [33, 35, 0]),
  (33, 0, [34, 0]),
  (34, 36, [0, 0]),
  (35, 8, [38, 3, 1]),
  (38, 22, [2]),
  (41, 0, [42, 1]),
  (42, 36, [0, 0])]
def kd_X11_areAlike_f82440_0 : List (Nat × sf_D × sf_M) := [(0, ([(1, 11, 0), (0, 0, 0), (0, 0, 0), (8, 0, 0)], [], [(1, 4, 0, 0, 2, 0), (1, 7, 0, 0, 2, 0)], 0, 0), (503, [])),
  (1, ([(1, 11, 0), (0, 0, 0), (0, 0, 0), (8, 0, 0)], [(0, 0, 0)], [(1, 4, 0, 0, 2, 0), (1, 7, 0, 0, 2, 0), (1, 0, 0, 0, 0, 0)], 0, 0), (502, [])),
  (2, ([(1, 11, 0), (0, 0, 0), (0, 0, 0), (0, 0, 0)], [], [(1, 4, 0, 0, 2, 0), (1, 7, 0, 0, 2, 0), (1, 10, 0, 0, 20, 0)], 0, 0), (21, [(24, 10, 20, 0)])),
  (3, ([(1, 11, 0), (0, 0, 0), (0, 0, 0), (0, 0, 0)], [(0, 0, 0)], [(1, 4, 0, 0, 2, 0), (1, 7, 0, 0, 2, 0), (1, 10, 0, 0, 20, 0), (1, 0, 0, 0, 20, 0), (2, 0, 10, 1, 0, 0)], 0, 0), (20, [(24, 10, 20, 0)])),
  (5, ([(1, 11, 0), (0, 0, 0), (0, 0, 0), (0, 0, 0)], [(0, 0, 0), (0, 0, 0)], [(1, 4, 0, 0, 2, 0), (1, 7, 0, 0, 2, 0), (1, 10, 0, 0, 20, 0), (1, 0, 0, 0, 20, 0), (1, 3, 0, 20, 20, 0), (2, 0, 10, 1, 0, 0)], 0, 0), (19, [(24, 10, 20, 0)])),
  (8, ([(1, 11, 0), (0, 0, 0), (0, 0, 0), (0, 0, 0)], [], [(1, 4, 0, 0, 2, 0), (1, 7, 0, 0, 2, 0), (1, 10, 0, 0, 19, 0)], 0, 0), (18, [(24, 10, 20, 0)])),
  (9, ([(1, 11, 0), (0, 0, 0), (0, 0, 0), (0, 0, 0)], [(1, 11, 0)], [(1, 4, 0, 0, 2, 0), (1, 7, 0, 0, 2, 0), (1, 10, 0, 0, 19, 0)], 0, 0), (17, [(24, 10, 20, 0)]))]
def kd_X11_areAlike_f82440_1 : List (Nat × sf_D × sf_M) := [(12, ([(1, 11, 0), (0, 0, 0), (0, 0, 0), (0, 0, 0)], [(1, 140, 0)], [(1, 4, 0, 0, 2, 0), (1, 7, 0, 0, 2, 0), (1, 10, 0, 0, 19, 0)], 0, 0), (16, [(24, 10, 20, 0)])),
  (14, ([(1, 11, 0), (0, 0, 0), (0, 0, 0), (0, 0, 0)], [(0, 0, 0), (1, 140, 0)], [(1, 4, 0, 0, 2, 0), (1, 7, 0, 0, 2, 0), (1, 10, 0, 0, 19, 0), (1, 3, 0, 20, 20, 0)], 0, 0), (15, [(24, 10, 20, 0)])),
  (15, ([(1, 11, 0), (0, 0, 0), (0, 0, 0), (0, 0, 0)], [(0, 0, 0), (0, 0, 0), (1, 140, 0)], [(1, 4, 0, 0, 2, 0), (1, 7, 0, 0, 2, 0), (1, 10, 0, 0, 19, 0), (1, 3, 0, 20, 20, 0), (1, 6, 0, 0, 2, 0), (2, 6, 4, 1, 0, 0)], 0, 0), (14, [(24, 10, 20, 0)])),
  (16, ([(1, 11, 0), (0, 0, 0), (0, 0, 0), (0, 0, 0)], [(0, 0, 0), (1, 140, 0)], [(1, 4, 0, 0, 2, 0), (1, 7, 0, 0, 2, 0), (1, 10, 0, 0, 19, 0), (1, 3, 0, 0, 40, 0), (2, 3, 4, 20, 0, 0)], 0, 0), (13, [(24, 10, 20, 0)])),
  (17, ([(1, 11, 0), (0, 0, 0), (0, 0, 0), (0, 0, 0)], [(0, 0, 0), (0, 0, 0), (1, 140, 0)], [(1, 4, 0, 0, 2, 0), (1, 7, 0, 0, 2, 0), (1, 10, 0, 0, 19, 0), (1, 3, 0, 0, 40, 0), (1, 6, 0, 0, 19, 0), (2, 3, 4, 20, 0, 0), (2, 6, 10, 1, 0, 0)], 0, 0), (12, [(24, 10, 20, 0)]))]
def kd_X11_areAlike_f82440_2 : List (Nat × sf_D × sf_M) := [(18, ([(1, 11, 0), (0, 0, 0), (0, 0, 0), (0, 0, 0)], [(0, 0, 0), (1, 140, 0)], [(1, 4, 0, 0, 2, 0), (1, 7, 0, 0, 2, 0), (1, 10, 0, 0, 19, 0), (1, 3, 0, 0, 59, 0)], 0, 0), (11, [(24, 10, 20, 0)])),
  (19, ([(1, 11, 0), (0, 0, 0), (0, 0, 0), (0, 0, 0)], [(0, 0, 0)], [(1, 4, 0, 0, 2, 0), (1, 7, 0, 0, 2, 0), (1, 10, 0, 0, 19, 0), (1, 0, 0, -2147483648, 2147483647, 0)], 0, 0), (10, [(24, 10, 20, 0)])),
  (20, ([(1, 11, 0), (0, 0, 0), (0, 0, 0), (0, 0, 0)], [(1, 11, 0), (0, 0, 0)], [(1, 4, 0, 0, 2, 0), (1, 7, 0, 0, 2, 0), (1, 10, 0, 0, 19, 0), (1, 0, 0, -2147483648, 2147483647, 0)], 0, 0), (9, [(24, 10, 20, 0)])),
  (23, ([(1, 11, 0), (0, 0, 0), (0, 0, 0), (0, 0, 0)], [(1, 140, 0), (0, 0, 0)], [(1, 4, 0, 0, 2, 0), (1, 7, 0, 0, 2, 0), (1, 10, 0, 0, 19, 0), (1, 0, 0, -2147483648, 2147483647, 0)], 0, 0), (8, [(24, 10, 20, 0)])),
  (25, ([(1, 11, 0), (0, 0, 0), (0, 0, 0), (0, 0, 0)], [(0, 0, 0), (1, 140, 0), (0, 0, 0)], [(1, 4, 0, 0, 2, 0), (1, 7, 0, 0, 2, 0), (1, 10, 0, 0, 19, 0), (1, 0, 0, -2147483648, 2147483647, 0), (1, 6, 0, 20, 20, 0)], 0, 0), (7, [(24, 10, 20, 0)])),
  (26, ([(1, 11, 0), (0, 0, 0), (0, 0, 0), (0, 0, 0)], [(0, 0, 0), (0, 0, 0), (1, 140, 0), (0, 0, 0)], [(1, 4, 0, 0, 2, 0), (1, 7, 0, 0, 2, 0), (1, 10, 0, 0, 19, 0), (1, 0, 0, -2147483648, 2147483647, 0), (1, 6, 0, 20, 20, 0), (1, 9, 0, 0, 2, 0), (2, 9, 7, 1, 0, 0)], 0, 0), (6, [(24, 10, 20, 0)]))]
def kd_X11_areAlike_f82440_3 : List (Nat × sf_D × sf_M) := [(27, ([(1, 11, 0), (0, 0, 0), (0, 0, 0), (0, 0, 0)], [(0, 0, 0), (1, 140, 0), (0, 0, 0)], [(1, 4, 0, 0, 2, 0), (1, 7, 0, 0, 2, 0), (1, 10, 0, 0, 19, 0), (1, 0, 0, -2147483648, 2147483647, 0), (1, 6, 0, 0, 40, 0), (2, 6, 7, 20, 0, 0)], 0, 0), (5, [(24, 10, 20, 0)])),
  (28, ([(1, 11, 0), (0, 0, 0), (0, 0, 0), (0, 0, 0)], [(0, 0, 0), (0, 0, 0), (1, 140, 0), (0, 0, 0)], [(1, 4, 0, 0, 2, 0), (1, 7, 0, 0, 2, 0), (1, 10, 0, 0, 19, 0), (1, 0, 0, -2147483648, 2147483647, 0), (1, 6, 0, 0, 40, 0), (1, 9, 0, 0, 19, 0), (2, 6, 7, 20, 0, 0), (2, 9, 10, 1, 0, 0)], 0, 0), (4, [(24, 10, 20, 0)])),
  (29, ([(1, 11, 0), (0, 0, 0), (0, 0, 0), (0, 0, 0)], [(0, 0, 0), (1, 140, 0), (0, 0, 0)], [(1, 4, 0, 0, 2, 0), (1, 7, 0, 0, 2, 0), (1, 10, 0, 0, 19, 0), (1, 0, 0, -2147483648, 2147483647, 0), (1, 6, 0, 0, 59, 0)], 0, 0), (3, [(24, 10, 20, 0)])),
  (30, ([(1, 11, 0), (0, 0, 0), (0, 0, 0), (0, 0, 0)], [(0, 0, 0), (0, 0, 0)], [(1, 4, 0, 0, 2, 0), (1, 7, 0, 0, 2, 0), (1, 10, 0, 0, 19, 0), (1, 0, 0, -2147483648, 2147483647, 0), (1, 3, 0, -2147483648, 2147483647, 0)], 0, 0), (2, [(24, 10, 20, 0)])),
  (33, ([(1, 11, 0), (0, 0, 0), (0, 0, 0), (0, 0, 0)], [], [(1, 4, 0, 0, 2, 0), (1, 7, 0, 0, 2, 0), (1, 10, 0, 0, 19, 0)], 0, 0), (1, []))]
def kd_X11_areAlike_f82440_4 : List (Nat × sf_D × sf_M) := [(34, ([(1, 11, 0), (0, 0, 0), (0, 0, 0), (0, 0, 0)], [(0, 0, 0)], [(1, 4, 0, 0, 2, 0), (1, 7, 0, 0, 2, 0), (1, 10, 0, 0, 19, 0), (1, 0, 0, 0, 0, 0)], 0, 0), (0, [])),
  (35, ([(1, 11, 0), (0, 0, 0), (0, 0, 0), (0, 0, 0)], [], [(1, 4, 0, 0, 2, 0), (1, 7, 0, 0, 2, 0), (1, 10, 0, 0, 19, 0)], 0, 0), (0, [(24, 10, 20, 0)])),
  (38, ([(1, 11, 0), (0, 0, 0), (0, 0, 0), (0, 0, 0)], [], [(1, 4, 0, 0, 2, 0), (1, 7, 0, 0, 2, 0), (1, 10, 0, 1, 20, 0)], 0, 0), (22, [(24, 10, 20, 0)])),
  (41, ([(1, 11, 0), (0, 0, 0), (0, 0, 0), (0, 0, 0)], [], [(1, 4, 0, 0, 2, 0), (1, 7, 0, 0, 2, 0), (1, 10, 0, 20, 20, 0)], 0, 0), (1, [])),
  (42, ([(1, 11, 0), (0, 0, 0), (0, 0, 0), (0, 0, 0)], [(0, 0, 0)], [(1, 4, 0, 0, 2, 0), (1, 7, 0, 0, 2, 0), (1, 10, 0, 20, 20, 0), (1, 0, 0, 1, 1, 0)], 0, 0), (0, []))]
def kd_X11_areAlike_f82440 : List (Nat × sf_D × sf_M) := kd_X11_areAlike_f82440_0 ++ (kd_X11_areAlike_f82440_1 ++ (kd_X11_areAlike_f82440_2 ++ (kd_X11_areAlike_f82440_3 ++ (kd_X11_areAlike_f82440_4))))
set_option maxRecDepth 100000 in
theorem kt_X11_areAlike_f82440 : sf_chk [] kq_X11_areAlike_f82440 4 kc_X11_areAlike_f82440 kd_X11_areAlike_f82440 = true := by decide +kernel
set_option maxRecDepth 100000 in
theorem kl_X11_areAlike_f82440 : (kc_X11_areAlike_f82440).map (fun c => (c.1, sf_den ([] : List sf_X) c.2)) = L_X11_areAlike := rfl
theorem ct_X11_areAlike_f82440 : sf_ct kq_X11_areAlike_f82440 Z_X11_areAlike := by
  have h := sf_meth (K := []) (E := []) (k := kq_X11_areAlike_f82440) (nL := 4) (C := kc_X11_areAlike_f82440) (D := kd_X11_areAlike_f82440) (fun m k hk => match m, hk with
    | _ + 0, hk => (by cases hk)) kt_X11_areAlike_f82440
  rw [kl_X11_areAlike_f82440] at h
  exact h
def kq_X11_settles_h : sf_Q := ([(1, 11, 0)], [], some (0, 0, 0), [], [(11, 0, 0), (11, 22, 22), (132, 120, 252), (139, 0, 132), (140, 0, 59)])
set_option maxRecDepth 100000 in
set_option maxHeartbeats 4000000 in
theorem ct_X11_settles_h : sf_ct kq_X11_settles_h Z_X11_settles := by
  intro t hp as H hl hj hpre
  match as, hl with
  | [v0], _ =>
    obtain ⟨a0, rfl, ra0⟩ := bs_aR (hj 0 _ rfl)
    obtain rfl := ra0.eq H (p := 69) rfl
    clear hpre hj
    have F0 : sf_fr [(11, 0, 0), (11, 22, 22), (132, 120, 252), (139, 0, 132), (140, 0, 59)] t hp t hp := sf_fr_rf
    refine bs_fin (K := kq_X11_settles_h) (L := (L_X11_settles Z_X11_tries Z_X11_lays Z_X11_areAlike Z_X11_goesOn Z_X11_back)) (nL := 3) (Nat.le_of_ble_eq_true rfl) ?_
    obtain ⟨Q, hQ⟩ : ∃ Q : ab_O → Prop, Q = (fun o => ∃ t', sf_h t' o.2 ∧ sf_fr (kq_X11_settles_h).2.2.2.2 t hp t' o.2 ∧ sf_an t' o.2.1 (kq_X11_settles_h).2.2.1 o.1 ∧ sf_S (sf_v1 o.1 [.ref 69] o.2) (kq_X11_settles_h).2.2.2.1) := ⟨_, rfl⟩
    rw [← hQ]
    refine (show Ev (ab_T (L_X11_settles Z_X11_tries Z_X11_lays Z_X11_areAlike Z_X11_goesOn Z_X11_back)) 0 ([some (.ref 69), none, none], [], (0, 0), hp) Q from ?_)
    refine Ev.step (j := 1) (s' := ([some (.ref 69), none, none], [.ref 69], (0, 0), hp)) rfl rfl ?_
    refine bs_lit (k := 0) rfl rfl fun z1 hz1 => ?_
    refine bs_putI (W := [(11, 0, 0)]) (g := 11) rfl rfl H (bs_R.uq H (g := 11) rfl) (by decide) rfl rfl rfl rfl (Or.inl rfl) (by omega) (by omega) fun hp2 Hhp2 fhp2 rhp2 ehp2 qhp2 nhp2 => ?_
    have Fhp2 := sf_fr_tr F0 (sf_fr_wider (W := [(11, 0, 0), (11, 22, 22), (132, 120, 252), (139, 0, 132), (140, 0, 59)]) rfl fhp2)
    refine Ev.step (j := 6) (s' := ([some (.ref 69), none, none], [.ref 69], (0, 0), hp2)) rfl rfl ?_
    refine bs_call (K := kq_X11_tries_h) [.ref 69] [] rfl ct_X11_tries_h Hhp2 rfl rfl rfl (bs_rcv (g := 11) Hhp2 (bs_R.uq Hhp2 (g := 11) rfl) (by decide) rfl) rfl ?_ (sf_S_nil) fun r3 hp4 thp4 Hhp4 fhp4 ahp4 php4 => ?_
    · intro q k h
      match q, h with
      | 0, h => cases h; exact bs_jR (bs_R.uq Hhp2 (g := 11) rfl)
      | q + 1, h => cases h
    obtain rfl := ahp4.1 rfl
    have Fhp4 := sf_fr_tr Fhp2 (sf_fr_wider (W := [(11, 0, 0), (11, 22, 22), (132, 120, 252), (139, 0, 132), (140, 0, 59)]) rfl fhp4)
    have h5 : sf_rd hp4 69 0 = some z1.toInt := (fhp4.2.2.1 _ (bs_R.uq Hhp2 (g := 11) (p := 69) rfl).1 _ (by rw [(bs_R.uq Hhp2 (g := 11) (p := 69) rfl).2]; rfl)).trans rhp2
    refine (show Ev _ 9 ([some (.ref 69), none, none], [], (0, 0), hp4) _ from ?_)
    refine bs_lit (k := -1) rfl rfl fun z6 hz6 => ?_
    refine Ev.step (j := 11) (s' := ([some (.ref 69), some (.int z6), none], [], (0, 0), hp4)) rfl rfl ?_
    refine bs_lit (k := 0) rfl rfl fun z7 hz7 => ?_
    refine Ev.step (j := 13) (s' := ([some (.ref 69), some (.int z6), some (.int z7)], [], (0, 0), hp4)) rfl rfl ?_
    refine bs_loop (ι := Int32 × Int32 × ab_H × (Nat → Nat)) (fun ⟨k8, k9, hp10, t11⟩ => ([some (.ref 69), some (.int k8), some (.int k9)], [], (0, 0), hp10)) (fun ⟨k8, k9, hp10, t11⟩ => (sf_h t11 hp10) ∧ (sf_fr [(11, 0, 0), (11, 22, 22), (132, 120, 252), (139, 0, 132), (140, 0, 59)] t hp t11 hp10) ∧ (0 ≤ k9.toInt ∧ k9.toInt ≤ 203)) (fun ⟨k8, k9, hp10, t11⟩ => (203 - k9.toInt).toNat) ?_ (z6, z7, hp4, thp4) ⟨Hhp4, Fhp4, (by first | omega | assumption)⟩
    rintro ⟨k8, k9, hp10, t11⟩ ⟨Hhp10, Fhp10, i13⟩ ih12
    refine (show Ev _ 13 ([some (.ref 69), some (.int k8), some (.int k9)], [], (0, 0), hp10) _ from ?_)
    refine Ev.step (j := 14) (s' := ([some (.ref 69), some (.int k8), some (.int k9)], [.int k9], (0, 0), hp10)) rfl rfl ?_
    refine bs_lit (k := 202) rfl rfl fun z14 hz14 => ?_
    refine bs_gt rfl (fun c15 => ?_) (fun c15 => ?_)
    · skip
      refine Ev.step (j := 83) (s' := ([some (.ref 69), some (.int k8), some (.int k9)], [.ref 69], (0, 0), hp10)) rfl rfl ?_
      refine bs_call (K := kq_X11_back_h) [.ref 69] [] rfl ct_X11_back_h Hhp10 rfl rfl rfl (bs_rcv (g := 11) Hhp10 (bs_R.uq Hhp10 (g := 11) rfl) (by decide) rfl) rfl ?_ (sf_S_nil) fun r16 hp17 thp17 Hhp17 fhp17 ahp17 php17 => ?_
      · intro q k h
        match q, h with
        | 0, h => cases h; exact bs_jR (bs_R.uq Hhp10 (g := 11) rfl)
        | q + 1, h => cases h
      obtain rfl := ahp17.1 rfl
      have Fhp17 := sf_fr_tr Fhp10 (sf_fr_wider (W := [(11, 0, 0), (11, 22, 22), (132, 120, 252), (139, 0, 132), (140, 0, 59)]) rfl fhp17)
      refine (show Ev _ 86 ([some (.ref 69), some (.int k8), some (.int k9)], [], (0, 0), hp17) _ from ?_)
      refine Ev.step (j := 87) (s' := ([some (.ref 69), some (.int k8), some (.int k9)], [.int k8], (0, 0), hp17)) rfl rfl ?_
      exact Ev.ret rfl rfl (by rw [hQ]; exact ⟨thp17, Hhp17, Fhp17, bs_an0, sf_S_nil⟩)
    · skip
      refine Ev.step (j := 21) (s' := ([some (.ref 69), some (.int k8), some (.int k9)], [.int k8], (0, 0), hp10)) rfl rfl ?_
      refine bs_ifge rfl (fun c18 => ?_) (fun c18 => ?_)
      · skip
        refine Ev.step (j := 83) (s' := ([some (.ref 69), some (.int k8), some (.int k9)], [.ref 69], (0, 0), hp10)) rfl rfl ?_
        refine bs_call (K := kq_X11_back_h) [.ref 69] [] rfl ct_X11_back_h Hhp10 rfl rfl rfl (bs_rcv (g := 11) Hhp10 (bs_R.uq Hhp10 (g := 11) rfl) (by decide) rfl) rfl ?_ (sf_S_nil) fun r19 hp20 thp20 Hhp20 fhp20 ahp20 php20 => ?_
        · intro q k h
          match q, h with
          | 0, h => cases h; exact bs_jR (bs_R.uq Hhp10 (g := 11) rfl)
          | q + 1, h => cases h
        obtain rfl := ahp20.1 rfl
        have Fhp20 := sf_fr_tr Fhp10 (sf_fr_wider (W := [(11, 0, 0), (11, 22, 22), (132, 120, 252), (139, 0, 132), (140, 0, 59)]) rfl fhp20)
        refine (show Ev _ 86 ([some (.ref 69), some (.int k8), some (.int k9)], [], (0, 0), hp20) _ from ?_)
        refine Ev.step (j := 87) (s' := ([some (.ref 69), some (.int k8), some (.int k9)], [.int k8], (0, 0), hp20)) rfl rfl ?_
        exact Ev.ret rfl rfl (by rw [hQ]; exact ⟨thp20, Hhp20, Fhp20, bs_an0, sf_S_nil⟩)
      · skip
        refine Ev.step (j := 25) (s' := ([some (.ref 69), some (.int k8), some (.int k9)], [.ref 69], (0, 0), hp10)) rfl rfl ?_
        refine Ev.step (j := 26) (s' := ([some (.ref 69), some (.int k8), some (.int k9)], [.int k9, .ref 69], (0, 0), hp10)) rfl rfl ?_
        refine bs_lit (k := 3) rfl rfl fun z21 hz21 => ?_
        refine bs_rem 3 rfl hz21 (by decide) (by omega) fun z22 hz22 => ?_
        refine bs_call (K := kq_X11_lays_37dbf4) [.ref 69, .int z22] [] rfl ct_X11_lays_37dbf4 Hhp10 rfl rfl rfl (bs_rcv (g := 11) Hhp10 (bs_R.uq Hhp10 (g := 11) rfl) (by decide) rfl) rfl ?_ (sf_S_cons (sf_s1 (x := z22.toInt) rfl (by omega) (by omega)) (sf_S_nil)) fun r23 hp24 thp24 Hhp24 fhp24 ahp24 php24 => ?_
        · intro q k h
          match q, h with
          | 0, h => cases h; exact bs_jR (bs_R.uq Hhp10 (g := 11) rfl)
          | 1, h => cases h; exact sf_j0
          | q + 2, h => cases h
        obtain rfl := ahp24.1 rfl
        have Fhp24 := sf_fr_tr Fhp10 (sf_fr_wider (W := [(11, 0, 0), (11, 22, 22), (132, 120, 252), (139, 0, 132), (140, 0, 59)]) rfl fhp24)
        refine (show Ev _ 31 ([some (.ref 69), some (.int k8), some (.int k9)], [], (0, 0), hp24) _ from ?_)
        refine Ev.step (j := 32) (s' := ([some (.ref 69), some (.int k8), some (.int k9)], [.int k9], (0, 0), hp24)) rfl rfl ?_
        refine bs_lit (k := 1) rfl rfl fun z25 hz25 => ?_
        refine bs_le rfl (fun c26 => ?_) (fun c26 => ?_)
        · skip
          refine Ev.step (j := 65) (s' := ([some (.ref 69), some (.int k8), some (.int k9)], [.ref 69], (0, 0), hp24)) rfl rfl ?_
          refine bs_lit (k := 1) rfl rfl fun z27 hz27 => ?_
          refine bs_call (K := kq_X11_goesOn_3d45d6) [.ref 69, .int z27] [] rfl ct_X11_goesOn_3d45d6 Hhp24 rfl rfl rfl (bs_rcv (g := 11) Hhp24 (bs_R.uq Hhp24 (g := 11) rfl) (by decide) rfl) rfl ?_ (sf_S_nil) fun r28 hp29 thp29 Hhp29 fhp29 ahp29 php29 => ?_
          · intro q k h
            match q, h with
            | 0, h => cases h; exact bs_jR (bs_R.uq Hhp24 (g := 11) rfl)
            | 1, h => cases h; exact sf_j0
            | q + 2, h => cases h
          obtain ⟨z30, rfl⟩ := bs_anI ahp29
          have rgz30 := n_range z30
          have Fhp29 := sf_fr_tr Fhp24 (sf_fr_wider (W := [(11, 0, 0), (11, 22, 22), (132, 120, 252), (139, 0, 132), (140, 0, 59)]) rfl fhp29)
          obtain ⟨uz30, vz30⟩ := bs_s1 (x := z30.toInt) rfl (php29 _ (List.mem_of_getElem? (i := 0) rfl))
          refine (show Ev _ 69 ([some (.ref 69), some (.int k8), some (.int k9)], [.int z30], (0, 0), hp29) _ from ?_)
          refine bs_ifne rfl (fun c31 => ?_) (fun c31 => ?_)
          · skip
            refine bs_iinc (1) rfl rfl rfl rfl (by omega) (by omega) fun z32 hz32 => ?_
            refine (show Ev _ 79 ([some (.ref 69), some (.int k8), some (.int z32)], [], (0, 0), hp29) _ from ?_)
            refine Ev.step (j := 13) (s' := ([some (.ref 69), some (.int k8), some (.int z32)], [], (0, 0), hp29)) rfl rfl ?_
            refine ih12 (k8, z32, hp29, thp29) ⟨Hhp29, Fhp29, (by first | omega | assumption)⟩ ?_
            show (203 - z32.toInt).toNat < (203 - k9.toInt).toNat
            omega
          · skip
            have c33 : z30.toInt = 0 := by omega
            refine bs_lit (k := 202) rfl rfl fun z34 hz34 => ?_
            refine Ev.step (j := 76) (s' := ([some (.ref 69), some (.int k8), some (.int z34)], [], (0, 0), hp29)) rfl rfl ?_
            refine bs_iinc (1) rfl rfl rfl rfl (by omega) (by omega) fun z35 hz35 => ?_
            refine (show Ev _ 79 ([some (.ref 69), some (.int k8), some (.int z35)], [], (0, 0), hp29) _ from ?_)
            refine Ev.step (j := 13) (s' := ([some (.ref 69), some (.int k8), some (.int z35)], [], (0, 0), hp29)) rfl rfl ?_
            refine ih12 (k8, z35, hp29, thp29) ⟨Hhp29, Fhp29, (by first | omega | assumption)⟩ ?_
            show (203 - z35.toInt).toNat < (203 - k9.toInt).toNat
            omega
        · skip
          refine Ev.step (j := 37) (s' := ([some (.ref 69), some (.int k8), some (.int k9)], [.ref 69], (0, 0), hp24)) rfl rfl ?_
          refine Ev.step (j := 38) (s' := ([some (.ref 69), some (.int k8), some (.int k9)], [.int k9, .ref 69], (0, 0), hp24)) rfl rfl ?_
          refine bs_lit (k := 3) rfl rfl fun z36 hz36 => ?_
          refine bs_rem 3 rfl hz36 (by decide) (by omega) fun z37 hz37 => ?_
          refine Ev.step (j := 41) (s' := ([some (.ref 69), some (.int k8), some (.int k9)], [.int k9, .int z37, .ref 69], (0, 0), hp24)) rfl rfl ?_
          refine bs_lit (k := 2) rfl rfl fun z38 hz38 => ?_
          first | (refine bs_sub rfl (by omega) (by omega) fun z39 hz39 => ?_) | (refine bs_any rfl fun z39 => ?_)
          have rz39 := n_range z39
          refine bs_lit (k := 3) rfl rfl fun z40 hz40 => ?_
          refine bs_rem 3 rfl hz40 (by decide) (by omega) fun z41 hz41 => ?_
          refine bs_call (K := kq_X11_areAlike_f82440) [.ref 69, .int z37, .int z41] [] rfl ct_X11_areAlike_f82440 Hhp24 rfl rfl rfl (bs_rcv (g := 11) Hhp24 (bs_R.uq Hhp24 (g := 11) rfl) (by decide) rfl) rfl ?_ (sf_S_cons (sf_s1 (x := z37.toInt) rfl (by omega) (by omega)) (sf_S_cons (sf_s1 (x := z41.toInt) rfl (by omega) (by omega)) (sf_S_nil))) fun r42 hp43 thp43 Hhp43 fhp43 ahp43 php43 => ?_
          · intro q k h
            match q, h with
            | 0, h => cases h; exact bs_jR (bs_R.uq Hhp24 (g := 11) rfl)
            | 1, h => cases h; exact sf_j0
            | 2, h => cases h; exact sf_j0
            | q + 3, h => cases h
          obtain ⟨z44, rfl⟩ := bs_anI ahp43
          have rgz44 := n_range z44
          have Fhp43 := sf_fr_tr Fhp24 (sf_fr_wider (W := [(11, 0, 0), (11, 22, 22), (132, 120, 252), (139, 0, 132), (140, 0, 59)]) rfl fhp43)
          obtain ⟨uz44, vz44⟩ := bs_s1 (x := z44.toInt) rfl (php43 _ (List.mem_of_getElem? (i := 0) rfl))
          refine (show Ev _ 48 ([some (.ref 69), some (.int k8), some (.int k9)], [.int z44], (0, 0), hp43) _ from ?_)
          refine bs_ifeq rfl (fun c45 => ?_) (fun c45 => ?_)
          · skip
            have c46 : z44.toInt = 0 := by omega
            refine Ev.step (j := 65) (s' := ([some (.ref 69), some (.int k8), some (.int k9)], [.ref 69], (0, 0), hp43)) rfl rfl ?_
            refine bs_lit (k := 1) rfl rfl fun z47 hz47 => ?_
            refine bs_call (K := kq_X11_goesOn_3d45d6) [.ref 69, .int z47] [] rfl ct_X11_goesOn_3d45d6 Hhp43 rfl rfl rfl (bs_rcv (g := 11) Hhp43 (bs_R.uq Hhp43 (g := 11) rfl) (by decide) rfl) rfl ?_ (sf_S_nil) fun r48 hp49 thp49 Hhp49 fhp49 ahp49 php49 => ?_
            · intro q k h
              match q, h with
              | 0, h => cases h; exact bs_jR (bs_R.uq Hhp43 (g := 11) rfl)
              | 1, h => cases h; exact sf_j0
              | q + 2, h => cases h
            obtain ⟨z50, rfl⟩ := bs_anI ahp49
            have rgz50 := n_range z50
            have Fhp49 := sf_fr_tr Fhp43 (sf_fr_wider (W := [(11, 0, 0), (11, 22, 22), (132, 120, 252), (139, 0, 132), (140, 0, 59)]) rfl fhp49)
            obtain ⟨uz50, vz50⟩ := bs_s1 (x := z50.toInt) rfl (php49 _ (List.mem_of_getElem? (i := 0) rfl))
            refine (show Ev _ 69 ([some (.ref 69), some (.int k8), some (.int k9)], [.int z50], (0, 0), hp49) _ from ?_)
            refine bs_ifne rfl (fun c51 => ?_) (fun c51 => ?_)
            · skip
              refine bs_iinc (1) rfl rfl rfl rfl (by omega) (by omega) fun z52 hz52 => ?_
              refine (show Ev _ 79 ([some (.ref 69), some (.int k8), some (.int z52)], [], (0, 0), hp49) _ from ?_)
              refine Ev.step (j := 13) (s' := ([some (.ref 69), some (.int k8), some (.int z52)], [], (0, 0), hp49)) rfl rfl ?_
              refine ih12 (k8, z52, hp49, thp49) ⟨Hhp49, Fhp49, (by first | omega | assumption)⟩ ?_
              show (203 - z52.toInt).toNat < (203 - k9.toInt).toNat
              omega
            · skip
              have c53 : z50.toInt = 0 := by omega
              refine bs_lit (k := 202) rfl rfl fun z54 hz54 => ?_
              refine Ev.step (j := 76) (s' := ([some (.ref 69), some (.int k8), some (.int z54)], [], (0, 0), hp49)) rfl rfl ?_
              refine bs_iinc (1) rfl rfl rfl rfl (by omega) (by omega) fun z55 hz55 => ?_
              refine (show Ev _ 79 ([some (.ref 69), some (.int k8), some (.int z55)], [], (0, 0), hp49) _ from ?_)
              refine Ev.step (j := 13) (s' := ([some (.ref 69), some (.int k8), some (.int z55)], [], (0, 0), hp49)) rfl rfl ?_
              refine ih12 (k8, z55, hp49, thp49) ⟨Hhp49, Fhp49, (by first | omega | assumption)⟩ ?_
              show (203 - z55.toInt).toNat < (203 - k9.toInt).toNat
              omega
          · skip
            refine Ev.step (j := 52) (s' := ([some (.ref 69), some (.int k8), some (.int k9)], [.ref 69], (0, 0), hp43)) rfl rfl ?_
            refine bs_getU (g := 11) (g1 := 132) rfl rfl Hhp43 (bs_R.uq Hhp43 (g := 11) rfl) (by decide) rfl rfl ?_
            refine bs_lit (k := 120) rfl rfl fun z56 hz56 => ?_
            refine bs_ld (g := 132) 120 120 (0, 400) rfl Hhp43 (bs_R.uq Hhp43 (g := 132) rfl) (by decide) rfl (by decide) (by decide) rfl (by decide) (by omega) (by omega) fun z57 hz57 lz57 gz57 => ?_
            dsimp only at lz57 gz57
            replace hz57 := bs_at hz57 (show z56.toInt.toNat = 120 by omega)
            refine bs_lit (k := 2) rfl rfl fun z58 hz58 => ?_
            first | (refine bs_sub rfl (by omega) (by omega) fun z59 hz59 => ?_) | (refine bs_any rfl fun z59 => ?_)
            have rz59 := n_range z59
            refine Ev.step (j := 61) (s' := ([some (.ref 69), some (.int z59), some (.int k9)], [], (0, 0), hp43)) rfl rfl ?_
            refine Ev.step (j := 76) (s' := ([some (.ref 69), some (.int z59), some (.int k9)], [], (0, 0), hp43)) rfl rfl ?_
            refine bs_iinc (1) rfl rfl rfl rfl (by omega) (by omega) fun z60 hz60 => ?_
            refine (show Ev _ 79 ([some (.ref 69), some (.int z59), some (.int z60)], [], (0, 0), hp43) _ from ?_)
            refine Ev.step (j := 13) (s' := ([some (.ref 69), some (.int z59), some (.int z60)], [], (0, 0), hp43)) rfl rfl ?_
            refine ih12 (z59, z60, hp43, thp43) ⟨Hhp43, Fhp43, (by first | omega | assumption)⟩ ?_
            show (203 - z60.toInt).toNat < (203 - k9.toInt).toNat
            omega
def kq_X11_taken_39c368 : sf_Q := ([(1, 11, 0), (0, 0, 0)], [(1, 3, 0, 940, 940, 0)], none, [(1, 36008, 0, 0, 0, 0), (1, 36014, 0, 0, 0, 0), (1, 36017, 0, 940, 940, 0)], [(11, 2, 5), (999, 0, 0)])
def kc_X11_taken_39c368 : List (Nat × sf_I) := [(0, 4, [1, 0]),
  (1, 4, [2, 0]),
  (2, 23, [5, 11, 2]),
  (5, 24, [8, 11, 3, 0]),
  (8, 4, [9, 0]),
  (9, 0, [10, 0]),
  (10, 24, [13, 11, 2, 0]),
  (13, 4, [14, 0]),
  (14, 0, [15, 0]),
  (15, 24, [18, 11, 4, 0]),
  (18, 4, [19, 0]),
  (19, 2, [20, 1]),
  (20, 24, [23, 11, 5, 0]),
  (23, 37, [0, 0])]
def kd_X11_taken_39c368_0 : List (Nat × sf_D × sf_M) := [(0, ([(1, 11, 0), (0, 0, 0)], [], [(1, 4, 0, 940, 940, 0)], 0, 0), (13, [])),
  (1, ([(1, 11, 0), (0, 0, 0)], [(1, 11, 0)], [(1, 4, 0, 940, 940, 0)], 0, 0), (12, [])),
  (2, ([(1, 11, 0), (0, 0, 0)], [(1, 11, 0), (1, 11, 0)], [(1, 4, 0, 940, 940, 0)], 0, 0), (11, [])),
  (5, ([(1, 11, 0), (0, 0, 0)], [(0, 0, 940), (1, 11, 0)], [(1, 4, 0, 940, 940, 0), (1, 3, 0, 0, 940, 0), (1, 36008, 0, -2147483648, 2147483647, 0), (2, 3, 36008, 1, 0, 0)], 0, 0), (10, [])),
  (8, ([(1, 11, 0), (0, 0, 0)], [], [(1, 4, 0, 940, 940, 0), (1, 36011, 0, 0, 940, 0), (1, 36008, 0, -2147483648, 2147483647, 0), (2, 36011, 36008, 1, 0, 0)], 0, 0), (9, [])),
  (9, ([(1, 11, 0), (0, 0, 0)], [(1, 11, 0)], [(1, 4, 0, 940, 940, 0), (1, 36011, 0, 0, 940, 0), (1, 36008, 0, -2147483648, 2147483647, 0), (2, 36011, 36008, 1, 0, 0)], 0, 0), (8, [])),
  (10, ([(1, 11, 0), (0, 0, 0)], [(0, 0, 0), (1, 11, 0)], [(1, 4, 0, 940, 940, 0), (1, 36011, 0, 0, 940, 0), (1, 36008, 0, -2147483648, 2147483647, 0), (1, 3, 0, 0, 0, 0), (2, 36011, 36008, 1, 0, 0)], 0, 0), (7, [])),
  (13, ([(1, 11, 0), (0, 0, 0)], [], [(1, 4, 0, 940, 940, 0), (1, 36011, 0, 0, 940, 0), (1, 36008, 0, 0, 0, 0)], 0, 0), (6, [])),
  (14, ([(1, 11, 0), (0, 0, 0)], [(1, 11, 0)], [(1, 4, 0, 940, 940, 0), (1, 36011, 0, 0, 940, 0), (1, 36008, 0, 0, 0, 0)], 0, 0), (5, [])),
  (15, ([(1, 11, 0), (0, 0, 0)], [(0, 0, 0), (1, 11, 0)], [(1, 4, 0, 940, 940, 0), (1, 36011, 0, 0, 940, 0), (1, 36008, 0, 0, 0, 0), (1, 3, 0, 0, 0, 0)], 0, 0), (4, []))]
def kd_X11_taken_39c368_1 : List (Nat × sf_D × sf_M) := [(18, ([(1, 11, 0), (0, 0, 0)], [], [(1, 4, 0, 940, 940, 0), (1, 36011, 0, 0, 940, 0), (1, 36008, 0, 0, 0, 0), (1, 36014, 0, 0, 0, 0)], 0, 0), (3, [])),
  (19, ([(1, 11, 0), (0, 0, 0)], [(1, 11, 0)], [(1, 4, 0, 940, 940, 0), (1, 36011, 0, 0, 940, 0), (1, 36008, 0, 0, 0, 0), (1, 36014, 0, 0, 0, 0)], 0, 0), (2, [])),
  (20, ([(1, 11, 0), (0, 0, 0)], [(0, 0, 0), (1, 11, 0)], [(1, 4, 0, 940, 940, 0), (1, 36011, 0, 0, 940, 0), (1, 36008, 0, 0, 0, 0), (1, 36014, 0, 0, 0, 0), (1, 3, 0, 940, 940, 0), (2, 3, 4, 1, 0, 0)], 0, 0), (1, [])),
  (23, ([(1, 11, 0), (0, 0, 0)], [], [(1, 4, 0, 940, 940, 0), (1, 36011, 0, 0, 940, 0), (1, 36008, 0, 0, 0, 0), (1, 36014, 0, 0, 0, 0), (1, 36017, 0, 940, 940, 0), (2, 36017, 4, 1, 0, 0)], 0, 0), (0, []))]
def kd_X11_taken_39c368 : List (Nat × sf_D × sf_M) := kd_X11_taken_39c368_0 ++ (kd_X11_taken_39c368_1)
set_option maxRecDepth 100000 in
theorem kt_X11_taken_39c368 : sf_chk [] kq_X11_taken_39c368 2 kc_X11_taken_39c368 kd_X11_taken_39c368 = true := by decide +kernel
set_option maxRecDepth 100000 in
theorem kl_X11_taken_39c368 : (kc_X11_taken_39c368).map (fun c => (c.1, sf_den ([] : List sf_X) c.2)) = L_X11_taken := rfl
theorem ct_X11_taken_39c368 : sf_ct kq_X11_taken_39c368 Z_X11_taken := by
  have h := sf_meth (K := []) (E := []) (k := kq_X11_taken_39c368) (nL := 2) (C := kc_X11_taken_39c368) (D := kd_X11_taken_39c368) (fun m k hk => match m, hk with
    | _ + 0, hk => (by cases hk)) kt_X11_taken_39c368
  rw [kl_X11_taken_39c368] at h
  exact h
end
-- 63.b05a.long.lean.txt
section
/-! ===== by hand: longs ===== -/
section BS
variable {T : Nat → Option ab_A} {i j : Nat} {lo : List (Option Value)} {st : List Value} {u : Nat × Nat} {hp : ab_H} {Q : ab_O → Prop} {t : Nat → Nat} {x y : Int32}
theorem bs_L {f : ab_S → Option ab_S} {w0 : Int64} {st' : List Value} (hT : T i = some (ab_nx j f)) (hf : f (lo, st, u, hp) = some (lo, .long w0 :: st', u, hp)) (h : ∀ w : Int64, Ev T j (lo, .long w :: st', u, hp) Q) : Ev T i (lo, st, u, hp) Q := Ev.nx hT hf (h _)
theorem bs_putL {W : List (Nat × Nat × Nat)} {a g k ci : Nat} {w : Int64} {l0 h0 : Int} (hT : T i = some (ab_nx j (ab_putf ci k 1))) (hci : ci = sf_o g) (H : sf_h t hp) (hR : bs_R t hp a g) (hg : g < 100) (hk : (sf_C g)[k]? = some (2, l0, h0)) (hW : sf_cv W g k k = true) (hs : (decide (g ≠ 5) || decide (2 ≤ k)) = true) (hm : (sf_mk W || decide (g ≠ 11) || (decide (k ≠ 4) && decide (k ≠ 11))) = true)
    (h : ∀ hp', sf_h t hp' → sf_fr W t hp t hp' → (∀ b q, sf_rd hp' b q = sf_rd hp b q) → (∀ b q, sf_rr hp' b q = sf_rr hp b q) → Ev T j (lo, st, u, hp') Q) : Ev T i (lo, .long w :: .ref a :: st, u, hp) Q := by
  subst hci
  obtain ⟨fs, v, e1, e2, e3⟩ := sf_get H hR.1 hR.2 hg hk
  have hilt : k < fs.length := (List.getElem?_eq_some_iff.mp e2).1
  simp only [Bool.or_eq_true, Bool.and_eq_true, decide_eq_true_eq] at hs hm
  obtain ⟨cv1, cv2⟩ := sf_cv_ok hW
  have hvl : ∃ w' : Int64, v = .long w' := by
    cases v with
    | long w' => exact ⟨w', rfl⟩
    | int z => exact absurd (show (2 : Nat) = 0 from e3.1) (by decide)
    | ref z => exact absurd (show (2 : Nat) = 1 from e3.1) (by decide)
    | null => exact absurd (show (2 : Nat) = 1 from e3.1) (by decide)
    | _ => exact e3.elim
  obtain ⟨w', rfl⟩ := hvl
  have hr : ∀ b q, sf_rd (ab_up hp a (.inr (sf_o g, fs.set k (.long w)))) b q = sf_rd hp b q := by
    intro b q
    by_cases e : b = a
    · subst e
      rw [sf_rd_up_obj]
      unfold sf_rd
      rw [e1]
      dsimp only
      by_cases e : q = k
      · subst e
        rw [List.getElem?_set_self hilt, e2]
        rfl
      · rw [List.getElem?_set_ne (Ne.symm e)]
    · exact sf_rd_up_ne e
  have hrr : ∀ b q, sf_rr (ab_up hp a (.inr (sf_o g, fs.set k (.long w)))) b q = sf_rr hp b q := by
    intro b q
    by_cases e : b = a
    · subst e
      unfold sf_rr
      rw [ab_up_eq, e1]
      dsimp only
      by_cases e : q = k
      · subst e
        rw [List.getElem?_set_self hilt, e2]
      · rw [List.getElem?_set_ne (Ne.symm e)]
    · exact sf_rr_up_ne e
  have sp : sf_sp (t a) k = false := by
    rw [hR.2]
    unfold sf_sp
    rw [decide_eq_false (show ¬ g = 103 by omega), decide_eq_false (show ¬ g = 104 by omega), decide_eq_false (show ¬ g = 106 by omega), decide_eq_false (show ¬ g = 107 by omega), decide_eq_false (show ¬ g = 145 by omega), decide_eq_false (show ¬ g = 132 by omega)]
    rfl
  refine Ev.putf hT hR.1 e1 hilt rfl (h _ (sf_put H hR.1 hR.2 e1 hk rfl (sf_I_up H (i0 := k) (i1 := k) sp (fun q _ => hr a q) (fun _ => ⟨hrr a 0, hrr a 1⟩))) (sf_fr_up (i0 := k) (i1 := k) (by rw [hR.2]; exact cv1) cv2 (fun q _ => hr a q) ?_) hr hrr)
  rcases hm with (h | h) | h
  · exact Or.inl h
  · exact Or.inr (Or.inl fun e => h (by rw [← hR.2, e]; exact (H.2.2.1 11 69 rfl).2))
  · exact Or.inr (Or.inr ⟨by omega, by omega⟩)
end BS
end
-- 63.b06.lean.txt
section
def kq_X11_next_h : sf_Q := ([(1, 11, 0)], [], none, [], [(11, 4, 4), (11, 11, 14), (11, 17, 17)])
set_option maxRecDepth 100000 in
set_option maxHeartbeats 4000000 in
theorem ct_X11_next_h : sf_ct kq_X11_next_h Z_X11_next := by
  intro t hp as H hl hj hpre
  match as, hl with
  | [v0], _ =>
    obtain ⟨a0, rfl, ra0⟩ := bs_aR (hj 0 _ rfl)
    obtain rfl := ra0.eq H (p := 69) rfl
    clear hpre hj
    have F0 : sf_fr [(999, 0, 0), (11, 4, 4), (11, 11, 14), (11, 17, 17)] t hp t hp := sf_fr_rf
    obtain ⟨P0, Q4, LP0, GP0⟩ := bs_fld (k := 4) H (bs_R.uq H (g := 11) rfl) (by decide) rfl
    obtain ⟨K0, Q11, -, -⟩ := bs_fld (k := 11) H (bs_R.uq H (g := 11) rfl) (by decide) rfl
    refine bs_fin (K := kq_X11_next_h) (L := (L_X11_next Z_X11_peek Z_X11_isSmall Z_X11_isDigit)) (nL := 4) (Nat.le_of_ble_eq_true rfl) ?_
    obtain ⟨Q, hQ⟩ : ∃ Q : ab_O → Prop, Q = (fun o => ∃ t', sf_h t' o.2 ∧ sf_fr (kq_X11_next_h).2.2.2.2 t hp t' o.2 ∧ sf_an t' o.2.1 (kq_X11_next_h).2.2.1 o.1 ∧ sf_S (sf_v1 o.1 [.ref 69] o.2) (kq_X11_next_h).2.2.2.1) := ⟨_, rfl⟩
    rw [← hQ]
    refine (show Ev (ab_T (L_X11_next Z_X11_peek Z_X11_isSmall Z_X11_isDigit)) 0 ([some (.ref 69), none, none, none], [], (0, 0), hp) Q from ?_)
    have INV : ∃ v : Int, sf_rd hp 69 4 = some v ∧ P0 ≤ v ∧ v ≤ 940 := ⟨_, Q4, by omega, by omega⟩
    refine bs_loop (ι := ab_H × (Nat → Nat)) (fun ⟨hp1, t2⟩ => ([some (.ref 69), none, none, none], [], (0, 0), hp1)) (fun ⟨hp1, t2⟩ => (sf_h t2 hp1) ∧ (sf_fr [(999, 0, 0), (11, 4, 4), (11, 11, 14), (11, 17, 17)] t hp t2 hp1) ∧ (∃ v : Int, sf_rd hp1 69 4 = some v ∧ P0 ≤ v ∧ v ≤ 940)) (fun ⟨hp1, t2⟩ => (940 - (sf_rd hp1 69 4).getD 0).toNat) ?_ (hp, t) ⟨H, F0, (by exact INV)⟩
    rintro ⟨hp1, t2⟩ ⟨Hhp1, Fhp1, i4⟩ ih3
    refine (show Ev _ 0 ([some (.ref 69), none, none, none], [], (0, 0), hp1) _ from ?_)
    obtain ⟨y5, hy5, ly5, gy5⟩ := i4
    refine Ev.step (j := 1) (s' := ([some (.ref 69), none, none, none], [.ref 69], (0, 0), hp1)) rfl rfl ?_
    refine pk_ev rfl Hhp1 rfl fun z6 pz6 oz6 mz6 => ?_
    replace mz6 := mz6 _ hy5
    refine (show Ev _ 4 ([some (.ref 69), none, none, none], [.int z6], (0, 0), hp1) _ from ?_)
    refine bs_lit (k := 32) rfl rfl fun z7 hz7 => ?_
    refine bs_eq rfl (fun c8 => ?_) (fun c8 => ?_)
    · skip
      have c9 : z6.toInt = 32 := by omega
      refine Ev.step (j := 19) (s' := ([some (.ref 69), none, none, none], [.ref 69], (0, 0), hp1)) rfl rfl ?_
      refine Ev.step (j := 20) (s' := ([some (.ref 69), none, none, none], [.ref 69, .ref 69], (0, 0), hp1)) rfl rfl ?_
      refine bs_getI 11 rfl rfl rfl Hhp1 (bs_R.uq Hhp1 (g := 11) rfl) (by decide) rfl fun z10 hz10 lz10 gz10 => ?_
      have e11 : z10.toInt = y5 := Option.some.inj (hz10.symm.trans hy5)
      refine bs_lit (k := 1) rfl rfl fun z12 hz12 => ?_
      first | (refine bs_add rfl (by omega) (by omega) fun z13 hz13 => ?_) | (refine bs_any rfl fun z13 => ?_)
      have rz13 := n_range z13
      refine bs_putI (W := [(11, 4, 4), (999, 0, 0)]) (g := 11) rfl rfl Hhp1 (bs_R.uq Hhp1 (g := 11) rfl) (by decide) rfl rfl rfl rfl (Or.inl rfl) (by omega) (by omega) fun hp14 Hhp14 fhp14 rhp14 ehp14 qhp14 nhp14 => ?_
      have Fhp14 := sf_fr_tr Fhp1 (sf_fr_wider (W := [(999, 0, 0), (11, 4, 4), (11, 11, 14), (11, 17, 17)]) rfl fhp14)
      refine Ev.step (j := 0) (s' := ([some (.ref 69), none, none, none], [], (0, 0), hp14)) rfl rfl ?_
      have INV : ∃ v : Int, sf_rd hp14 69 4 = some v ∧ P0 ≤ v ∧ v ≤ 940 := ⟨_, rhp14, by omega, by omega⟩
      have MS : (940 - (sf_rd hp14 69 4).getD 0).toNat < (940 - (sf_rd hp1 69 4).getD 0).toNat := by
        rw [rhp14, hy5]
        show (940 - z13.toInt).toNat < (940 - y5).toNat
        omega
      refine ih3 (hp14, t2) ⟨Hhp14, Fhp14, (by exact INV)⟩ ?_
      show (940 - (sf_rd hp14 69 4).getD 0).toNat < (940 - (sf_rd hp1 69 4).getD 0).toNat
      exact MS
    · skip
      refine Ev.step (j := 10) (s' := ([some (.ref 69), none, none, none], [.ref 69], (0, 0), hp1)) rfl rfl ?_
      refine pk_ev rfl Hhp1 rfl fun z15 pz15 oz15 mz15 => ?_
      replace mz15 := mz15 _ hy5
      have e16 : z15.toInt = z6.toInt := pz15.same pz6
      refine (show Ev _ 13 ([some (.ref 69), none, none, none], [.int z15], (0, 0), hp1) _ from ?_)
      refine bs_lit (k := 10) rfl rfl fun z17 hz17 => ?_
      refine bs_ne rfl (fun c18 => ?_) (fun c18 => ?_)
      · skip
        refine Ev.step (j := 32) (s' := ([some (.ref 69), none, none, none], [.ref 69], (0, 0), hp1)) rfl rfl ?_
        refine Ev.step (j := 33) (s' := ([some (.ref 69), none, none, none], [.ref 69, .ref 69], (0, 0), hp1)) rfl rfl ?_
        refine bs_getI 11 rfl rfl rfl Hhp1 (bs_R.uq Hhp1 (g := 11) rfl) (by decide) rfl fun z19 hz19 lz19 gz19 => ?_
        have e20 : z19.toInt = y5 := Option.some.inj (hz19.symm.trans hy5)
        refine bs_putI (W := [(11, 12, 12)]) (g := 11) rfl rfl Hhp1 (bs_R.uq Hhp1 (g := 11) rfl) (by decide) rfl rfl rfl rfl (Or.inl rfl) (by omega) (by omega) fun hp21 Hhp21 fhp21 rhp21 ehp21 qhp21 nhp21 => ?_
        have Fhp21 := sf_fr_tr Fhp1 (sf_fr_wider (W := [(999, 0, 0), (11, 4, 4), (11, 11, 14), (11, 17, 17)]) rfl fhp21)
        have h22 : sf_rd hp21 69 4 = some y5 := (ehp21 _ _ (Or.inr (by omega))).trans hy5
        refine Ev.step (j := 40) (s' := ([some (.ref 69), none, none, none], [.ref 69], (0, 0), hp21)) rfl rfl ?_
        refine bs_lit (k := 0) rfl rfl fun z23 hz23 => ?_
        refine bs_putI (W := [(11, 13, 13)]) (g := 11) rfl rfl Hhp21 (bs_R.uq Hhp21 (g := 11) rfl) (by decide) rfl rfl rfl rfl (Or.inl rfl) (by omega) (by omega) fun hp24 Hhp24 fhp24 rhp24 ehp24 qhp24 nhp24 => ?_
        have Fhp24 := sf_fr_tr Fhp21 (sf_fr_wider (W := [(999, 0, 0), (11, 4, 4), (11, 11, 14), (11, 17, 17)]) rfl fhp24)
        have h25 : sf_rd hp24 69 4 = some y5 := (ehp24 _ _ (Or.inr (by omega))).trans h22
        have h26 : sf_rd hp24 69 12 = some z19.toInt := (ehp24 _ _ (Or.inr (by omega))).trans rhp21
        have cut27 : ∀ (hp28 : ab_H) (t29 : Nat → Nat), sf_h t29 hp28 → sf_fr [(999, 0, 0), (11, 4, 4), (11, 11, 14), (11, 17, 17)] t hp t29 hp28 → (∃ v : Int, sf_rd hp28 69 4 = some v ∧ sf_rd hp28 69 13 = some 0 ∧ P0 ≤ v ∧ v ≤ 940) → Ev (ab_T (L_X11_next Z_X11_peek Z_X11_isSmall Z_X11_isDigit)) 80 ([some (.ref 69), none, none, none], [], (0, 0), hp28) Q := by
          intro hp28 t29 Hhp28 Fhp28 i30
          obtain ⟨y31, hy31, cy31, ly31, gy31⟩ := i30
          refine Ev.step (j := 81) (s' := ([some (.ref 69), none, none, none], [.ref 69], (0, 0), hp28)) rfl rfl ?_
          refine pk_ev rfl Hhp28 rfl fun z32 pz32 oz32 mz32 => ?_
          replace mz32 := mz32 _ hy31
          refine (show Ev _ 84 ([some (.ref 69), none, none, none], [.int z32], (0, 0), hp28) _ from ?_)
          refine Ev.step (j := 85) (s' := ([some (.ref 69), some (.int z32), none, none], [], (0, 0), hp28)) rfl rfl ?_
          refine Ev.step (j := 86) (s' := ([some (.ref 69), some (.int z32), none, none], [.int z32], (0, 0), hp28)) rfl rfl ?_
          refine bs_ifge rfl (fun c33 => ?_) (fun c33 => ?_)
          · skip
            have cut34 : ∀ (k35 : Int32) (k36 : Int32) (hp37 : ab_H) (t38 : Nat → Nat), sf_h t38 hp37 → sf_fr [(999, 0, 0), (11, 4, 4), (11, 11, 14), (11, 17, 17)] t hp t38 hp37 → (∃ v : Int, sf_rd hp37 69 4 = some v ∧ sf_rd hp37 69 13 = some 0 ∧ P0 ≤ v ∧ v ≤ 940 ∧ ((48 ≤ z32.toInt ∧ z32.toInt ≤ 57) ∨ (97 ≤ z32.toInt ∧ z32.toInt ≤ 122)) ∧ pkR hp37 z32) → (0 ≤ k35.toInt ∧ k35.toInt ≤ 1) → Ev (ab_T (L_X11_next Z_X11_peek Z_X11_isSmall Z_X11_isDigit)) 171 ([some (.ref 69), some (.int z32), some (.int k35), some (.int k36)], [], (0, 0), hp37) Q := by
              intro k35 k36 hp37 t38 Hhp37 Fhp37 i39 i40
              obtain ⟨y41, hy41, cy41, ly41, gy41, dy41, ky41⟩ := i39
              refine Ev.step (j := 172) (s' := ([some (.ref 69), some (.int z32), some (.int k35), some (.int k36)], [.ref 69], (0, 0), hp37)) rfl rfl ?_
              refine Ev.step (j := 173) (s' := ([some (.ref 69), some (.int z32), some (.int k35), some (.int k36)], [.long (0), .ref 69], (0, 0), hp37)) rfl rfl ?_
              refine bs_putL (W := [(11, 17, 17)]) (g := 11) rfl rfl Hhp37 (bs_R.uq Hhp37 (g := 11) rfl) (by decide) rfl rfl rfl rfl fun hp42 Hhp42 fhp42 ehp42 qhp42 => ?_
              have Fhp42 := sf_fr_tr Fhp37 (sf_fr_wider (W := [(999, 0, 0), (11, 4, 4), (11, 11, 14), (11, 17, 17)]) rfl fhp42)
              have h43 : sf_rd hp42 69 4 = some y41 := (ehp42 _ _).trans hy41
              have h44 : sf_rd hp42 69 13 = some (0 : Int) := (ehp42 _ _).trans cy41
              refine Ev.step (j := 177) (s' := ([some (.ref 69), some (.int z32), some (.int k35), some (.int k36)], [.ref 69], (0, 0), hp42)) rfl rfl ?_
              refine bs_lit (k := 0) rfl rfl fun z45 hz45 => ?_
              refine bs_putI (W := [(11, 14, 14)]) (g := 11) rfl rfl Hhp42 (bs_R.uq Hhp42 (g := 11) rfl) (by decide) rfl rfl rfl rfl (Or.inl rfl) (by omega) (by omega) fun hp46 Hhp46 fhp46 rhp46 ehp46 qhp46 nhp46 => ?_
              have Fhp46 := sf_fr_tr Fhp42 (sf_fr_wider (W := [(999, 0, 0), (11, 4, 4), (11, 11, 14), (11, 17, 17)]) rfl fhp46)
              have h47 : sf_rd hp46 69 4 = some y41 := (ehp46 _ _ (Or.inr (by omega))).trans h43
              have h48 : sf_rd hp46 69 13 = some (0 : Int) := (ehp46 _ _ (Or.inr (by omega))).trans h44
              have P49 := pkR.mv ky41 (ehp42 _ _) (ehp42 _ _) (fun q => ehp42 _ _)
              have P50 := pkR.mv P49 (ehp46 _ _ (Or.inr (by decide))) (ehp46 _ _ (Or.inr (by decide))) (fun q => ehp46 _ _ (Or.inl (by decide)))
              have INV : ∃ v c n : Int, sf_rd hp46 69 4 = some v ∧ sf_rd hp46 69 13 = some c ∧ sf_rd hp46 69 14 = some n ∧ P0 ≤ v ∧ v ≤ 940 ∧ 0 ≤ c ∧ c ≤ v ∧ 0 ≤ n ∧ n ≤ 8214 ∧ (c = 0 → n ≤ 0) ∧ (c = 1 → n ≤ 74) ∧ (c = 2 → n ≤ 814) ∧ (P0 + 1 ≤ v ∨ pkR hp46 z32) := ⟨_, _, _, h47, h48, rhp46, by omega, by omega, by omega, by omega, by omega, by omega, by omega, by omega, by omega, Or.inr P50⟩
              refine bs_loop (ι := Int32 × ab_H × (Nat → Nat)) (fun ⟨k51, hp52, t53⟩ => ([some (.ref 69), some (.int z32), some (.int k35), some (.int k51)], [], (0, 0), hp52)) (fun ⟨k51, hp52, t53⟩ => (sf_h t53 hp52) ∧ (sf_fr [(999, 0, 0), (11, 4, 4), (11, 11, 14), (11, 17, 17)] t hp t53 hp52) ∧ (∃ v c n : Int, sf_rd hp52 69 4 = some v ∧ sf_rd hp52 69 13 = some c ∧ sf_rd hp52 69 14 = some n ∧ P0 ≤ v ∧ v ≤ 940 ∧ 0 ≤ c ∧ c ≤ v ∧ 0 ≤ n ∧ n ≤ 8214 ∧ (c = 0 → n ≤ 0) ∧ (c = 1 → n ≤ 74) ∧ (c = 2 → n ≤ 814) ∧ (P0 + 1 ≤ v ∨ pkR hp52 z32))) (fun ⟨k51, hp52, t53⟩ => (940 - (sf_rd hp52 69 4).getD 0).toNat) ?_ (k36, hp46, t38) ⟨Hhp46, Fhp46, (by exact INV)⟩
              rintro ⟨k51, hp52, t53⟩ ⟨Hhp52, Fhp52, i55⟩ ih54
              refine (show Ev _ 181 ([some (.ref 69), some (.int z32), some (.int k35), some (.int k51)], [], (0, 0), hp52) _ from ?_)
              obtain ⟨y56, y57, y58, hy56, hy57, hy58, ly56, gy56, ly57, gy57, ly58, gy58, dy58, fy58, ky58, jy56⟩ := i55
              refine Ev.step (j := 182) (s' := ([some (.ref 69), some (.int z32), some (.int k35), some (.int k51)], [.ref 69], (0, 0), hp52)) rfl rfl ?_
              refine pk_ev rfl Hhp52 rfl fun z59 pz59 oz59 mz59 => ?_
              replace mz59 := mz59 _ hy56
              refine (show Ev _ 185 ([some (.ref 69), some (.int z32), some (.int k35), some (.int k51)], [.int z59], (0, 0), hp52) _ from ?_)
              have cut60 : ∀ (hp61 : ab_H) (t62 : Nat → Nat), sf_h t62 hp61 → sf_fr [(999, 0, 0), (11, 4, 4), (11, 11, 14), (11, 17, 17)] t hp t62 hp61 → (sf_rd hp61 69 4 = some y56) → (sf_rd hp61 69 13 = some y57) → (sf_rd hp61 69 14 = some y58) → ((48 ≤ z59.toInt ∧ z59.toInt ≤ 57) ∨ (97 ≤ z59.toInt ∧ z59.toInt ≤ 122)) → (pkR hp61 z59) → Ev (ab_T (L_X11_next Z_X11_peek Z_X11_isSmall Z_X11_isDigit)) 201 ([some (.ref 69), some (.int z32), some (.int k35), some (.int k51)], [], (0, 0), hp61) Q := by
                intro hp61 t62 Hhp61 Fhp61 i63 i64 i65 i66 i67
                have cut68 : ∀ (k69 : Int32) (hp70 : ab_H) (t71 : Nat → Nat), sf_h t71 hp70 → sf_fr [(999, 0, 0), (11, 4, 4), (11, 11, 14), (11, 17, 17)] t hp t71 hp70 → (sf_rd hp70 69 4 = some y56) → (sf_rd hp70 69 13 = some y57) → (sf_rd hp70 69 14 = some y58) → (pkR hp70 z59) → Ev (ab_T (L_X11_next Z_X11_peek Z_X11_isSmall Z_X11_isDigit)) 222 ([some (.ref 69), some (.int z32), some (.int k35), some (.int k69)], [], (0, 0), hp70) Q := by
                  intro k69 hp70 t71 Hhp70 Fhp70 i72 i73 i74 i75
                  refine Ev.step (j := 223) (s' := ([some (.ref 69), some (.int z32), some (.int k35), some (.int k69)], [.ref 69], (0, 0), hp70)) rfl rfl ?_
                  refine bs_getI 11 rfl rfl rfl Hhp70 (bs_R.uq Hhp70 (g := 11) rfl) (by decide) rfl fun z76 hz76 lz76 gz76 => ?_
                  have e77 : z76.toInt = y57 := Option.some.inj (hz76.symm.trans i73)
                  refine bs_lit (k := 7) rfl rfl fun z78 hz78 => ?_
                  refine bs_ge rfl (fun c79 => ?_) (fun c79 => ?_)
                  · skip
                    refine Ev.step (j := 249) (s' := ([some (.ref 69), some (.int z32), some (.int k35), some (.int k69)], [.ref 69], (0, 0), hp70)) rfl rfl ?_
                    refine bs_getI 11 rfl rfl rfl Hhp70 (bs_R.uq Hhp70 (g := 11) rfl) (by decide) rfl fun z80 hz80 lz80 gz80 => ?_
                    have e81 : z80.toInt = y57 := Option.some.inj (hz80.symm.trans i73)
                    refine bs_lit (k := 3) rfl rfl fun z82 hz82 => ?_
                    refine bs_ge rfl (fun c83 => ?_) (fun c83 => ?_)
                    · skip
                      refine Ev.step (j := 276) (s' := ([some (.ref 69), some (.int z32), some (.int k35), some (.int k69)], [.ref 69], (0, 0), hp70)) rfl rfl ?_
                      refine Ev.step (j := 277) (s' := ([some (.ref 69), some (.int z32), some (.int k35), some (.int k69)], [.ref 69, .ref 69], (0, 0), hp70)) rfl rfl ?_
                      refine bs_getI 11 rfl rfl rfl Hhp70 (bs_R.uq Hhp70 (g := 11) rfl) (by decide) rfl fun z84 hz84 lz84 gz84 => ?_
                      have e85 : z84.toInt = y57 := Option.some.inj (hz84.symm.trans i73)
                      refine bs_lit (k := 1) rfl rfl fun z86 hz86 => ?_
                      first | (refine bs_add rfl (by omega) (by omega) fun z87 hz87 => ?_) | (refine bs_any rfl fun z87 => ?_)
                      have rz87 := n_range z87
                      refine bs_putI (W := [(11, 13, 13)]) (g := 11) rfl rfl Hhp70 (bs_R.uq Hhp70 (g := 11) rfl) (by decide) rfl rfl rfl rfl (Or.inl rfl) (by omega) (by omega) fun hp88 Hhp88 fhp88 rhp88 ehp88 qhp88 nhp88 => ?_
                      have Fhp88 := sf_fr_tr Fhp70 (sf_fr_wider (W := [(999, 0, 0), (11, 4, 4), (11, 11, 14), (11, 17, 17)]) rfl fhp88)
                      have h89 : sf_rd hp88 69 4 = some y56 := (ehp88 _ _ (Or.inr (by omega))).trans i72
                      have h90 : sf_rd hp88 69 14 = some y58 := (ehp88 _ _ (Or.inr (by omega))).trans i74
                      refine Ev.step (j := 286) (s' := ([some (.ref 69), some (.int z32), some (.int k35), some (.int k69)], [.ref 69], (0, 0), hp88)) rfl rfl ?_
                      refine Ev.step (j := 287) (s' := ([some (.ref 69), some (.int z32), some (.int k35), some (.int k69)], [.ref 69, .ref 69], (0, 0), hp88)) rfl rfl ?_
                      refine bs_getI 11 rfl rfl rfl Hhp88 (bs_R.uq Hhp88 (g := 11) rfl) (by decide) rfl fun z91 hz91 lz91 gz91 => ?_
                      have e92 : z91.toInt = y56 := Option.some.inj (hz91.symm.trans h89)
                      refine bs_lit (k := 1) rfl rfl fun z93 hz93 => ?_
                      first | (refine bs_add rfl (by omega) (by omega) fun z94 hz94 => ?_) | (refine bs_any rfl fun z94 => ?_)
                      have rz94 := n_range z94
                      refine bs_putI (W := [(11, 4, 4), (999, 0, 0)]) (g := 11) rfl rfl Hhp88 (bs_R.uq Hhp88 (g := 11) rfl) (by decide) rfl rfl rfl rfl (Or.inl rfl) (by omega) (by omega) fun hp95 Hhp95 fhp95 rhp95 ehp95 qhp95 nhp95 => ?_
                      have Fhp95 := sf_fr_tr Fhp88 (sf_fr_wider (W := [(999, 0, 0), (11, 4, 4), (11, 11, 14), (11, 17, 17)]) rfl fhp95)
                      have h96 : sf_rd hp95 69 14 = some y58 := (ehp95 _ _ (Or.inr (by omega))).trans h90
                      have h97 : sf_rd hp95 69 13 = some z87.toInt := (ehp95 _ _ (Or.inr (by omega))).trans rhp88
                      refine Ev.step (j := 181) (s' := ([some (.ref 69), some (.int z32), some (.int k35), some (.int k69)], [], (0, 0), hp95)) rfl rfl ?_
                      have INV : ∃ v c n : Int, sf_rd hp95 69 4 = some v ∧ sf_rd hp95 69 13 = some c ∧ sf_rd hp95 69 14 = some n ∧ P0 ≤ v ∧ v ≤ 940 ∧ 0 ≤ c ∧ c ≤ v ∧ 0 ≤ n ∧ n ≤ 8214 ∧ (c = 0 → n ≤ 0) ∧ (c = 1 → n ≤ 74) ∧ (c = 2 → n ≤ 814) ∧ (P0 + 1 ≤ v ∨ pkR hp95 z32) := ⟨_, _, _, rhp95, h97, h96, by omega, by omega, by omega, by omega, by omega, by omega, by omega, by omega, by omega, Or.inl (by omega)⟩
                      have MS : (940 - (sf_rd hp95 69 4).getD 0).toNat < (940 - (sf_rd hp52 69 4).getD 0).toNat := by
                        rw [rhp95, hy56]
                        show (940 - z94.toInt).toNat < (940 - y56).toNat
                        omega
                      refine ih54 (k69, hp95, t71) ⟨Hhp95, Fhp95, (by exact INV)⟩ ?_
                      show (940 - (sf_rd hp95 69 4).getD 0).toNat < (940 - (sf_rd hp52 69 4).getD 0).toNat
                      exact MS
                    · skip
                      refine Ev.step (j := 257) (s' := ([some (.ref 69), some (.int z32), some (.int k35), some (.int k69)], [.ref 69], (0, 0), hp70)) rfl rfl ?_
                      refine bs_lit (k := 10) rfl rfl fun z98 hz98 => ?_
                      refine Ev.step (j := 260) (s' := ([some (.ref 69), some (.int z32), some (.int k35), some (.int k69)], [.ref 69, .int z98, .ref 69], (0, 0), hp70)) rfl rfl ?_
                      refine bs_getI 11 rfl rfl rfl Hhp70 (bs_R.uq Hhp70 (g := 11) rfl) (by decide) rfl fun z99 hz99 lz99 gz99 => ?_
                      have e100 : z99.toInt = y58 := Option.some.inj (hz99.symm.trans i74)
                      refine bs_mul (10) rfl (Or.inl hz98) (by rw [hz98]; omega) (by rw [hz98]; omega) fun z101 hz101 => ?_
                      rw [hz98] at hz101
                      refine Ev.step (j := 265) (s' := ([some (.ref 69), some (.int z32), some (.int k35), some (.int k69)], [.ref 69, .int z101, .ref 69], (0, 0), hp70)) rfl rfl ?_
                      refine pk_ev rfl Hhp70 rfl fun z102 pz102 oz102 mz102 => ?_
                      replace mz102 := mz102 _ i72
                      have e103 : z102.toInt = z59.toInt := pz102.same i75
                      refine (show Ev _ 268 ([some (.ref 69), some (.int z32), some (.int k35), some (.int k69)], [.int z102, .int z101, .ref 69], (0, 0), hp70) _ from ?_)
                      first | (refine bs_add rfl (by omega) (by omega) fun z104 hz104 => ?_) | (refine bs_any rfl fun z104 => ?_)
                      have rz104 := n_range z104
                      refine bs_lit (k := 48) rfl rfl fun z105 hz105 => ?_
                      first | (refine bs_sub rfl (by omega) (by omega) fun z106 hz106 => ?_) | (refine bs_any rfl fun z106 => ?_)
                      have rz106 := n_range z106
                      refine bs_putI (W := [(11, 14, 14)]) (g := 11) rfl rfl Hhp70 (bs_R.uq Hhp70 (g := 11) rfl) (by decide) rfl rfl rfl rfl (Or.inl rfl) (by omega) (by omega) fun hp107 Hhp107 fhp107 rhp107 ehp107 qhp107 nhp107 => ?_
                      have Fhp107 := sf_fr_tr Fhp70 (sf_fr_wider (W := [(999, 0, 0), (11, 4, 4), (11, 11, 14), (11, 17, 17)]) rfl fhp107)
                      have h108 : sf_rd hp107 69 4 = some y56 := (ehp107 _ _ (Or.inr (by omega))).trans i72
                      have h109 : sf_rd hp107 69 13 = some y57 := (ehp107 _ _ (Or.inr (by omega))).trans i73
                      refine Ev.step (j := 276) (s' := ([some (.ref 69), some (.int z32), some (.int k35), some (.int k69)], [.ref 69], (0, 0), hp107)) rfl rfl ?_
                      refine Ev.step (j := 277) (s' := ([some (.ref 69), some (.int z32), some (.int k35), some (.int k69)], [.ref 69, .ref 69], (0, 0), hp107)) rfl rfl ?_
                      refine bs_getI 11 rfl rfl rfl Hhp107 (bs_R.uq Hhp107 (g := 11) rfl) (by decide) rfl fun z110 hz110 lz110 gz110 => ?_
                      have e111 : z110.toInt = y57 := Option.some.inj (hz110.symm.trans h109)
                      refine bs_lit (k := 1) rfl rfl fun z112 hz112 => ?_
                      first | (refine bs_add rfl (by omega) (by omega) fun z113 hz113 => ?_) | (refine bs_any rfl fun z113 => ?_)
                      have rz113 := n_range z113
                      refine bs_putI (W := [(11, 13, 13)]) (g := 11) rfl rfl Hhp107 (bs_R.uq Hhp107 (g := 11) rfl) (by decide) rfl rfl rfl rfl (Or.inl rfl) (by omega) (by omega) fun hp114 Hhp114 fhp114 rhp114 ehp114 qhp114 nhp114 => ?_
                      have Fhp114 := sf_fr_tr Fhp107 (sf_fr_wider (W := [(999, 0, 0), (11, 4, 4), (11, 11, 14), (11, 17, 17)]) rfl fhp114)
                      have h115 : sf_rd hp114 69 4 = some y56 := (ehp114 _ _ (Or.inr (by omega))).trans h108
                      have h116 : sf_rd hp114 69 14 = some z106.toInt := (ehp114 _ _ (Or.inr (by omega))).trans rhp107
                      refine Ev.step (j := 286) (s' := ([some (.ref 69), some (.int z32), some (.int k35), some (.int k69)], [.ref 69], (0, 0), hp114)) rfl rfl ?_
                      refine Ev.step (j := 287) (s' := ([some (.ref 69), some (.int z32), some (.int k35), some (.int k69)], [.ref 69, .ref 69], (0, 0), hp114)) rfl rfl ?_
                      refine bs_getI 11 rfl rfl rfl Hhp114 (bs_R.uq Hhp114 (g := 11) rfl) (by decide) rfl fun z117 hz117 lz117 gz117 => ?_
                      have e118 : z117.toInt = y56 := Option.some.inj (hz117.symm.trans h115)
                      refine bs_lit (k := 1) rfl rfl fun z119 hz119 => ?_
                      first | (refine bs_add rfl (by omega) (by omega) fun z120 hz120 => ?_) | (refine bs_any rfl fun z120 => ?_)
                      have rz120 := n_range z120
                      refine bs_putI (W := [(11, 4, 4), (999, 0, 0)]) (g := 11) rfl rfl Hhp114 (bs_R.uq Hhp114 (g := 11) rfl) (by decide) rfl rfl rfl rfl (Or.inl rfl) (by omega) (by omega) fun hp121 Hhp121 fhp121 rhp121 ehp121 qhp121 nhp121 => ?_
                      have Fhp121 := sf_fr_tr Fhp114 (sf_fr_wider (W := [(999, 0, 0), (11, 4, 4), (11, 11, 14), (11, 17, 17)]) rfl fhp121)
                      have h122 : sf_rd hp121 69 14 = some z106.toInt := (ehp121 _ _ (Or.inr (by omega))).trans h116
                      have h123 : sf_rd hp121 69 13 = some z113.toInt := (ehp121 _ _ (Or.inr (by omega))).trans rhp114
                      refine Ev.step (j := 181) (s' := ([some (.ref 69), some (.int z32), some (.int k35), some (.int k69)], [], (0, 0), hp121)) rfl rfl ?_
                      have INV : ∃ v c n : Int, sf_rd hp121 69 4 = some v ∧ sf_rd hp121 69 13 = some c ∧ sf_rd hp121 69 14 = some n ∧ P0 ≤ v ∧ v ≤ 940 ∧ 0 ≤ c ∧ c ≤ v ∧ 0 ≤ n ∧ n ≤ 8214 ∧ (c = 0 → n ≤ 0) ∧ (c = 1 → n ≤ 74) ∧ (c = 2 → n ≤ 814) ∧ (P0 + 1 ≤ v ∨ pkR hp121 z32) := ⟨_, _, _, rhp121, h123, h122, by omega, by omega, by omega, by omega, by omega, by omega, by omega, by omega, by omega, Or.inl (by omega)⟩
                      have MS : (940 - (sf_rd hp121 69 4).getD 0).toNat < (940 - (sf_rd hp52 69 4).getD 0).toNat := by
                        rw [rhp121, hy56]
                        show (940 - z120.toInt).toNat < (940 - y56).toNat
                        omega
                      refine ih54 (k69, hp121, t71) ⟨Hhp121, Fhp121, (by exact INV)⟩ ?_
                      show (940 - (sf_rd hp121 69 4).getD 0).toNat < (940 - (sf_rd hp52 69 4).getD 0).toNat
                      exact MS
                  · skip
                    refine Ev.step (j := 232) (s' := ([some (.ref 69), some (.int z32), some (.int k35), some (.int k69)], [.ref 69], (0, 0), hp70)) rfl rfl ?_
                    refine Ev.step (j := 233) (s' := ([some (.ref 69), some (.int z32), some (.int k35), some (.int k69)], [.ref 69, .ref 69], (0, 0), hp70)) rfl rfl ?_
                    refine bs_getL (g := 11) rfl rfl Hhp70 (bs_R.uq Hhp70 (g := 11) rfl) (by decide) rfl fun w124 => ?_
                    refine bs_lit (k := 8) rfl rfl fun z125 hz125 => ?_
                    refine bs_L rfl rfl fun w126 => ?_
                    refine Ev.step (j := 240) (s' := ([some (.ref 69), some (.int z32), some (.int k35), some (.int k69)], [.ref 69, .long w126, .ref 69], (0, 0), hp70)) rfl rfl ?_
                    refine pk_ev rfl Hhp70 rfl fun z127 pz127 oz127 mz127 => ?_
                    replace mz127 := mz127 _ i72
                    have e128 : z127.toInt = z59.toInt := pz127.same i75
                    refine (show Ev _ 243 ([some (.ref 69), some (.int z32), some (.int k35), some (.int k69)], [.int z127, .long w126, .ref 69], (0, 0), hp70) _ from ?_)
                    refine bs_L rfl rfl fun w129 => ?_
                    refine bs_L rfl rfl fun w130 => ?_
                    refine bs_putL (W := [(11, 17, 17)]) (g := 11) rfl rfl Hhp70 (bs_R.uq Hhp70 (g := 11) rfl) (by decide) rfl rfl rfl rfl fun hp131 Hhp131 fhp131 ehp131 qhp131 => ?_
                    have Fhp131 := sf_fr_tr Fhp70 (sf_fr_wider (W := [(999, 0, 0), (11, 4, 4), (11, 11, 14), (11, 17, 17)]) rfl fhp131)
                    have h132 : sf_rd hp131 69 4 = some y56 := (ehp131 _ _).trans i72
                    have h133 : sf_rd hp131 69 13 = some y57 := (ehp131 _ _).trans i73
                    have h134 : sf_rd hp131 69 14 = some y58 := (ehp131 _ _).trans i74
                    refine Ev.step (j := 249) (s' := ([some (.ref 69), some (.int z32), some (.int k35), some (.int k69)], [.ref 69], (0, 0), hp131)) rfl rfl ?_
                    refine bs_getI 11 rfl rfl rfl Hhp131 (bs_R.uq Hhp131 (g := 11) rfl) (by decide) rfl fun z135 hz135 lz135 gz135 => ?_
                    have e136 : z135.toInt = y57 := Option.some.inj (hz135.symm.trans h133)
                    refine bs_lit (k := 3) rfl rfl fun z137 hz137 => ?_
                    refine bs_ge rfl (fun c138 => ?_) (fun c138 => ?_)
                    · skip
                      refine Ev.step (j := 276) (s' := ([some (.ref 69), some (.int z32), some (.int k35), some (.int k69)], [.ref 69], (0, 0), hp131)) rfl rfl ?_
                      refine Ev.step (j := 277) (s' := ([some (.ref 69), some (.int z32), some (.int k35), some (.int k69)], [.ref 69, .ref 69], (0, 0), hp131)) rfl rfl ?_
                      refine bs_getI 11 rfl rfl rfl Hhp131 (bs_R.uq Hhp131 (g := 11) rfl) (by decide) rfl fun z139 hz139 lz139 gz139 => ?_
                      have e140 : z139.toInt = y57 := Option.some.inj (hz139.symm.trans h133)
                      refine bs_lit (k := 1) rfl rfl fun z141 hz141 => ?_
                      first | (refine bs_add rfl (by omega) (by omega) fun z142 hz142 => ?_) | (refine bs_any rfl fun z142 => ?_)
                      have rz142 := n_range z142
                      refine bs_putI (W := [(11, 13, 13)]) (g := 11) rfl rfl Hhp131 (bs_R.uq Hhp131 (g := 11) rfl) (by decide) rfl rfl rfl rfl (Or.inl rfl) (by omega) (by omega) fun hp143 Hhp143 fhp143 rhp143 ehp143 qhp143 nhp143 => ?_
                      have Fhp143 := sf_fr_tr Fhp131 (sf_fr_wider (W := [(999, 0, 0), (11, 4, 4), (11, 11, 14), (11, 17, 17)]) rfl fhp143)
                      have h144 : sf_rd hp143 69 4 = some y56 := (ehp143 _ _ (Or.inr (by omega))).trans h132
                      have h145 : sf_rd hp143 69 14 = some y58 := (ehp143 _ _ (Or.inr (by omega))).trans h134
                      refine Ev.step (j := 286) (s' := ([some (.ref 69), some (.int z32), some (.int k35), some (.int k69)], [.ref 69], (0, 0), hp143)) rfl rfl ?_
                      refine Ev.step (j := 287) (s' := ([some (.ref 69), some (.int z32), some (.int k35), some (.int k69)], [.ref 69, .ref 69], (0, 0), hp143)) rfl rfl ?_
                      refine bs_getI 11 rfl rfl rfl Hhp143 (bs_R.uq Hhp143 (g := 11) rfl) (by decide) rfl fun z146 hz146 lz146 gz146 => ?_
                      have e147 : z146.toInt = y56 := Option.some.inj (hz146.symm.trans h144)
                      refine bs_lit (k := 1) rfl rfl fun z148 hz148 => ?_
                      first | (refine bs_add rfl (by omega) (by omega) fun z149 hz149 => ?_) | (refine bs_any rfl fun z149 => ?_)
                      have rz149 := n_range z149
                      refine bs_putI (W := [(11, 4, 4), (999, 0, 0)]) (g := 11) rfl rfl Hhp143 (bs_R.uq Hhp143 (g := 11) rfl) (by decide) rfl rfl rfl rfl (Or.inl rfl) (by omega) (by omega) fun hp150 Hhp150 fhp150 rhp150 ehp150 qhp150 nhp150 => ?_
                      have Fhp150 := sf_fr_tr Fhp143 (sf_fr_wider (W := [(999, 0, 0), (11, 4, 4), (11, 11, 14), (11, 17, 17)]) rfl fhp150)
                      have h151 : sf_rd hp150 69 14 = some y58 := (ehp150 _ _ (Or.inr (by omega))).trans h145
                      have h152 : sf_rd hp150 69 13 = some z142.toInt := (ehp150 _ _ (Or.inr (by omega))).trans rhp143
                      refine Ev.step (j := 181) (s' := ([some (.ref 69), some (.int z32), some (.int k35), some (.int k69)], [], (0, 0), hp150)) rfl rfl ?_
                      have INV : ∃ v c n : Int, sf_rd hp150 69 4 = some v ∧ sf_rd hp150 69 13 = some c ∧ sf_rd hp150 69 14 = some n ∧ P0 ≤ v ∧ v ≤ 940 ∧ 0 ≤ c ∧ c ≤ v ∧ 0 ≤ n ∧ n ≤ 8214 ∧ (c = 0 → n ≤ 0) ∧ (c = 1 → n ≤ 74) ∧ (c = 2 → n ≤ 814) ∧ (P0 + 1 ≤ v ∨ pkR hp150 z32) := ⟨_, _, _, rhp150, h152, h151, by omega, by omega, by omega, by omega, by omega, by omega, by omega, by omega, by omega, Or.inl (by omega)⟩
                      have MS : (940 - (sf_rd hp150 69 4).getD 0).toNat < (940 - (sf_rd hp52 69 4).getD 0).toNat := by
                        rw [rhp150, hy56]
                        show (940 - z149.toInt).toNat < (940 - y56).toNat
                        omega
                      refine ih54 (k69, hp150, t71) ⟨Hhp150, Fhp150, (by exact INV)⟩ ?_
                      show (940 - (sf_rd hp150 69 4).getD 0).toNat < (940 - (sf_rd hp52 69 4).getD 0).toNat
                      exact MS
                    · skip
                      refine Ev.step (j := 257) (s' := ([some (.ref 69), some (.int z32), some (.int k35), some (.int k69)], [.ref 69], (0, 0), hp131)) rfl rfl ?_
                      refine bs_lit (k := 10) rfl rfl fun z153 hz153 => ?_
                      refine Ev.step (j := 260) (s' := ([some (.ref 69), some (.int z32), some (.int k35), some (.int k69)], [.ref 69, .int z153, .ref 69], (0, 0), hp131)) rfl rfl ?_
                      refine bs_getI 11 rfl rfl rfl Hhp131 (bs_R.uq Hhp131 (g := 11) rfl) (by decide) rfl fun z154 hz154 lz154 gz154 => ?_
                      have e155 : z154.toInt = y58 := Option.some.inj (hz154.symm.trans h134)
                      refine bs_mul (10) rfl (Or.inl hz153) (by rw [hz153]; omega) (by rw [hz153]; omega) fun z156 hz156 => ?_
                      rw [hz153] at hz156
                      refine Ev.step (j := 265) (s' := ([some (.ref 69), some (.int z32), some (.int k35), some (.int k69)], [.ref 69, .int z156, .ref 69], (0, 0), hp131)) rfl rfl ?_
                      refine pk_ev rfl Hhp131 rfl fun z157 pz157 oz157 mz157 => ?_
                      replace mz157 := mz157 _ h132
                      have P158 := pkR.mv pz127 (ehp131 _ _) (ehp131 _ _) (fun q => ehp131 _ _)
                      have e159 : z157.toInt = z127.toInt := pz157.same P158
                      refine (show Ev _ 268 ([some (.ref 69), some (.int z32), some (.int k35), some (.int k69)], [.int z157, .int z156, .ref 69], (0, 0), hp131) _ from ?_)
                      first | (refine bs_add rfl (by omega) (by omega) fun z160 hz160 => ?_) | (refine bs_any rfl fun z160 => ?_)
                      have rz160 := n_range z160
                      refine bs_lit (k := 48) rfl rfl fun z161 hz161 => ?_
                      first | (refine bs_sub rfl (by omega) (by omega) fun z162 hz162 => ?_) | (refine bs_any rfl fun z162 => ?_)
                      have rz162 := n_range z162
                      refine bs_putI (W := [(11, 14, 14)]) (g := 11) rfl rfl Hhp131 (bs_R.uq Hhp131 (g := 11) rfl) (by decide) rfl rfl rfl rfl (Or.inl rfl) (by omega) (by omega) fun hp163 Hhp163 fhp163 rhp163 ehp163 qhp163 nhp163 => ?_
                      have Fhp163 := sf_fr_tr Fhp131 (sf_fr_wider (W := [(999, 0, 0), (11, 4, 4), (11, 11, 14), (11, 17, 17)]) rfl fhp163)
                      have h164 : sf_rd hp163 69 4 = some y56 := (ehp163 _ _ (Or.inr (by omega))).trans h132
                      have h165 : sf_rd hp163 69 13 = some y57 := (ehp163 _ _ (Or.inr (by omega))).trans h133
                      refine Ev.step (j := 276) (s' := ([some (.ref 69), some (.int z32), some (.int k35), some (.int k69)], [.ref 69], (0, 0), hp163)) rfl rfl ?_
                      refine Ev.step (j := 277) (s' := ([some (.ref 69), some (.int z32), some (.int k35), some (.int k69)], [.ref 69, .ref 69], (0, 0), hp163)) rfl rfl ?_
                      refine bs_getI 11 rfl rfl rfl Hhp163 (bs_R.uq Hhp163 (g := 11) rfl) (by decide) rfl fun z166 hz166 lz166 gz166 => ?_
                      have e167 : z166.toInt = y57 := Option.some.inj (hz166.symm.trans h165)
                      refine bs_lit (k := 1) rfl rfl fun z168 hz168 => ?_
                      first | (refine bs_add rfl (by omega) (by omega) fun z169 hz169 => ?_) | (refine bs_any rfl fun z169 => ?_)
                      have rz169 := n_range z169
                      refine bs_putI (W := [(11, 13, 13)]) (g := 11) rfl rfl Hhp163 (bs_R.uq Hhp163 (g := 11) rfl) (by decide) rfl rfl rfl rfl (Or.inl rfl) (by omega) (by omega) fun hp170 Hhp170 fhp170 rhp170 ehp170 qhp170 nhp170 => ?_
                      have Fhp170 := sf_fr_tr Fhp163 (sf_fr_wider (W := [(999, 0, 0), (11, 4, 4), (11, 11, 14), (11, 17, 17)]) rfl fhp170)
                      have h171 : sf_rd hp170 69 4 = some y56 := (ehp170 _ _ (Or.inr (by omega))).trans h164
                      have h172 : sf_rd hp170 69 14 = some z162.toInt := (ehp170 _ _ (Or.inr (by omega))).trans rhp163
                      refine Ev.step (j := 286) (s' := ([some (.ref 69), some (.int z32), some (.int k35), some (.int k69)], [.ref 69], (0, 0), hp170)) rfl rfl ?_
                      refine Ev.step (j := 287) (s' := ([some (.ref 69), some (.int z32), some (.int k35), some (.int k69)], [.ref 69, .ref 69], (0, 0), hp170)) rfl rfl ?_
                      refine bs_getI 11 rfl rfl rfl Hhp170 (bs_R.uq Hhp170 (g := 11) rfl) (by decide) rfl fun z173 hz173 lz173 gz173 => ?_
                      have e174 : z173.toInt = y56 := Option.some.inj (hz173.symm.trans h171)
                      refine bs_lit (k := 1) rfl rfl fun z175 hz175 => ?_
                      first | (refine bs_add rfl (by omega) (by omega) fun z176 hz176 => ?_) | (refine bs_any rfl fun z176 => ?_)
                      have rz176 := n_range z176
                      refine bs_putI (W := [(11, 4, 4), (999, 0, 0)]) (g := 11) rfl rfl Hhp170 (bs_R.uq Hhp170 (g := 11) rfl) (by decide) rfl rfl rfl rfl (Or.inl rfl) (by omega) (by omega) fun hp177 Hhp177 fhp177 rhp177 ehp177 qhp177 nhp177 => ?_
                      have Fhp177 := sf_fr_tr Fhp170 (sf_fr_wider (W := [(999, 0, 0), (11, 4, 4), (11, 11, 14), (11, 17, 17)]) rfl fhp177)
                      have h178 : sf_rd hp177 69 14 = some z162.toInt := (ehp177 _ _ (Or.inr (by omega))).trans h172
                      have h179 : sf_rd hp177 69 13 = some z169.toInt := (ehp177 _ _ (Or.inr (by omega))).trans rhp170
                      refine Ev.step (j := 181) (s' := ([some (.ref 69), some (.int z32), some (.int k35), some (.int k69)], [], (0, 0), hp177)) rfl rfl ?_
                      have INV : ∃ v c n : Int, sf_rd hp177 69 4 = some v ∧ sf_rd hp177 69 13 = some c ∧ sf_rd hp177 69 14 = some n ∧ P0 ≤ v ∧ v ≤ 940 ∧ 0 ≤ c ∧ c ≤ v ∧ 0 ≤ n ∧ n ≤ 8214 ∧ (c = 0 → n ≤ 0) ∧ (c = 1 → n ≤ 74) ∧ (c = 2 → n ≤ 814) ∧ (P0 + 1 ≤ v ∨ pkR hp177 z32) := ⟨_, _, _, rhp177, h179, h178, by omega, by omega, by omega, by omega, by omega, by omega, by omega, by omega, by omega, Or.inl (by omega)⟩
                      have MS : (940 - (sf_rd hp177 69 4).getD 0).toNat < (940 - (sf_rd hp52 69 4).getD 0).toNat := by
                        rw [rhp177, hy56]
                        show (940 - z176.toInt).toNat < (940 - y56).toNat
                        omega
                      refine ih54 (k69, hp177, t71) ⟨Hhp177, Fhp177, (by exact INV)⟩ ?_
                      show (940 - (sf_rd hp177 69 4).getD 0).toNat < (940 - (sf_rd hp52 69 4).getD 0).toNat
                      exact MS
                refine Ev.step (j := 202) (s' := ([some (.ref 69), some (.int z32), some (.int k35), some (.int k51)], [.int k51], (0, 0), hp61)) rfl rfl ?_
                refine bs_ifeq rfl (fun c180 => ?_) (fun c180 => ?_)
                · skip
                  have c181 : k51.toInt = 0 := by omega
                  refine bs_lit (k := 0) rfl rfl fun z182 hz182 => ?_
                  refine Ev.step (j := 222) (s' := ([some (.ref 69), some (.int z32), some (.int k35), some (.int z182)], [], (0, 0), hp61)) rfl rfl ?_
                  exact cut68 z182 hp61 t62 Hhp61 Fhp61 i63 i64 i65 (by first | omega | assumption)
                · skip
                  refine Ev.step (j := 206) (s' := ([some (.ref 69), some (.int z32), some (.int k35), some (.int k51)], [.ref 69], (0, 0), hp61)) rfl rfl ?_
                  refine pk_ev rfl Hhp61 rfl fun z183 pz183 oz183 mz183 => ?_
                  replace mz183 := mz183 _ i63
                  have e184 : z183.toInt = z59.toInt := pz183.same i67
                  refine (show Ev _ 209 ([some (.ref 69), some (.int z32), some (.int k35), some (.int k51)], [.int z183], (0, 0), hp61) _ from ?_)
                  refine Ev.inlS (L := L_X11_isSmall) (nL := 1) rfl rfl (Nat.le_of_ble_eq_true rfl) ?_
                  generalize hQ185 : (fun (o : ab_O) => Ev _ _ _ _) = Q185
                  refine (show Ev (ab_T L_X11_isSmall) 0 ([some (.int z183)], [], (0, 0), hp61) Q185 from ?_)
                  refine Ev.step (j := 1) (s' := ([some (.int z183)], [.int z183], (0, 0), hp61)) rfl rfl ?_
                  refine bs_lit (k := 97) rfl rfl fun z186 hz186 => ?_
                  refine bs_lt rfl (fun c187 => ?_) (fun c187 => ?_)
                  · skip
                    refine bs_lit (k := 0) rfl rfl fun z188 hz188 => ?_
                    refine bs_zret rfl rfl (by omega) (by omega) ?_
                    rw [← hQ185]
                    refine (show Ev _ 212 ([some (.ref 69), some (.int z32), some (.int k35), some (.int k51)], [.int z188], (0, 0), hp61) _ from ?_)
                    refine Ev.step (j := 213) (s' := ([some (.ref 69), some (.int z32), some (.int k35), some (.int k51)], [.int k35, .int z188], (0, 0), hp61)) rfl rfl ?_
                    refine bs_ne rfl (fun c189 => ?_) (fun c189 => ?_)
                    · skip
                      refine bs_lit (k := 0) rfl rfl fun z190 hz190 => ?_
                      refine Ev.step (j := 222) (s' := ([some (.ref 69), some (.int z32), some (.int k35), some (.int z190)], [], (0, 0), hp61)) rfl rfl ?_
                      exact cut68 z190 hp61 t62 Hhp61 Fhp61 i63 i64 i65 (by first | omega | assumption)
                    · skip
                      refine bs_lit (k := 1) rfl rfl fun z191 hz191 => ?_
                      refine Ev.step (j := 221) (s' := ([some (.ref 69), some (.int z32), some (.int k35), some (.int k51)], [.int z191], (0, 0), hp61)) rfl rfl ?_
                      refine Ev.step (j := 222) (s' := ([some (.ref 69), some (.int z32), some (.int k35), some (.int z191)], [], (0, 0), hp61)) rfl rfl ?_
                      exact cut68 z191 hp61 t62 Hhp61 Fhp61 i63 i64 i65 (by first | omega | assumption)
                  · skip
                    refine Ev.step (j := 7) (s' := ([some (.int z183)], [.int z183], (0, 0), hp61)) rfl rfl ?_
                    refine bs_lit (k := 122) rfl rfl fun z192 hz192 => ?_
                    refine bs_gt rfl (fun c193 => ?_) (fun c193 => ?_)
                    · skip
                      refine bs_lit (k := 0) rfl rfl fun z194 hz194 => ?_
                      refine bs_zret rfl rfl (by omega) (by omega) ?_
                      rw [← hQ185]
                      refine (show Ev _ 212 ([some (.ref 69), some (.int z32), some (.int k35), some (.int k51)], [.int z194], (0, 0), hp61) _ from ?_)
                      refine Ev.step (j := 213) (s' := ([some (.ref 69), some (.int z32), some (.int k35), some (.int k51)], [.int k35, .int z194], (0, 0), hp61)) rfl rfl ?_
                      refine bs_ne rfl (fun c195 => ?_) (fun c195 => ?_)
                      · skip
                        refine bs_lit (k := 0) rfl rfl fun z196 hz196 => ?_
                        refine Ev.step (j := 222) (s' := ([some (.ref 69), some (.int z32), some (.int k35), some (.int z196)], [], (0, 0), hp61)) rfl rfl ?_
                        exact cut68 z196 hp61 t62 Hhp61 Fhp61 i63 i64 i65 (by first | omega | assumption)
                      · skip
                        refine bs_lit (k := 1) rfl rfl fun z197 hz197 => ?_
                        refine Ev.step (j := 221) (s' := ([some (.ref 69), some (.int z32), some (.int k35), some (.int k51)], [.int z197], (0, 0), hp61)) rfl rfl ?_
                        refine Ev.step (j := 222) (s' := ([some (.ref 69), some (.int z32), some (.int k35), some (.int z197)], [], (0, 0), hp61)) rfl rfl ?_
                        exact cut68 z197 hp61 t62 Hhp61 Fhp61 i63 i64 i65 (by first | omega | assumption)
                    · skip
                      refine bs_lit (k := 1) rfl rfl fun z198 hz198 => ?_
                      refine Ev.step (j := 17) (s' := ([some (.int z183)], [.int z198], (0, 0), hp61)) rfl rfl ?_
                      refine bs_zret rfl rfl (by omega) (by omega) ?_
                      rw [← hQ185]
                      refine (show Ev _ 212 ([some (.ref 69), some (.int z32), some (.int k35), some (.int k51)], [.int z198], (0, 0), hp61) _ from ?_)
                      refine Ev.step (j := 213) (s' := ([some (.ref 69), some (.int z32), some (.int k35), some (.int k51)], [.int k35, .int z198], (0, 0), hp61)) rfl rfl ?_
                      refine bs_ne rfl (fun c199 => ?_) (fun c199 => ?_)
                      · skip
                        refine bs_lit (k := 0) rfl rfl fun z200 hz200 => ?_
                        refine Ev.step (j := 222) (s' := ([some (.ref 69), some (.int z32), some (.int k35), some (.int z200)], [], (0, 0), hp61)) rfl rfl ?_
                        exact cut68 z200 hp61 t62 Hhp61 Fhp61 i63 i64 i65 (by first | omega | assumption)
                      · skip
                        refine bs_lit (k := 1) rfl rfl fun z201 hz201 => ?_
                        refine Ev.step (j := 221) (s' := ([some (.ref 69), some (.int z32), some (.int k35), some (.int k51)], [.int z201], (0, 0), hp61)) rfl rfl ?_
                        refine Ev.step (j := 222) (s' := ([some (.ref 69), some (.int z32), some (.int k35), some (.int z201)], [], (0, 0), hp61)) rfl rfl ?_
                        exact cut68 z201 hp61 t62 Hhp61 Fhp61 i63 i64 i65 (by first | omega | assumption)
              refine Ev.inlS (L := L_X11_isSmall) (nL := 1) rfl rfl (Nat.le_of_ble_eq_true rfl) ?_
              generalize hQ202 : (fun (o : ab_O) => Ev _ _ _ _) = Q202
              refine (show Ev (ab_T L_X11_isSmall) 0 ([some (.int z59)], [], (0, 0), hp52) Q202 from ?_)
              refine Ev.step (j := 1) (s' := ([some (.int z59)], [.int z59], (0, 0), hp52)) rfl rfl ?_
              refine bs_lit (k := 97) rfl rfl fun z203 hz203 => ?_
              refine bs_lt rfl (fun c204 => ?_) (fun c204 => ?_)
              · skip
                refine bs_lit (k := 0) rfl rfl fun z205 hz205 => ?_
                refine bs_zret rfl rfl (by omega) (by omega) ?_
                rw [← hQ202]
                refine (show Ev _ 188 ([some (.ref 69), some (.int z32), some (.int k35), some (.int k51)], [.int z205], (0, 0), hp52) _ from ?_)
                refine bs_ifne rfl (fun c206 => ?_) (fun c206 => ?_)
                · exfalso; omega
                · skip
                  refine Ev.step (j := 192) (s' := ([some (.ref 69), some (.int z32), some (.int k35), some (.int k51)], [.ref 69], (0, 0), hp52)) rfl rfl ?_
                  refine pk_ev rfl Hhp52 rfl fun z207 pz207 oz207 mz207 => ?_
                  replace mz207 := mz207 _ hy56
                  have e208 : z207.toInt = z59.toInt := pz207.same pz59
                  refine (show Ev _ 195 ([some (.ref 69), some (.int z32), some (.int k35), some (.int k51)], [.int z207], (0, 0), hp52) _ from ?_)
                  refine Ev.inlS (L := L_X11_isDigit) (nL := 1) rfl rfl (Nat.le_of_ble_eq_true rfl) ?_
                  generalize hQ209 : (fun (o : ab_O) => Ev _ _ _ _) = Q209
                  refine (show Ev (ab_T L_X11_isDigit) 0 ([some (.int z207)], [], (0, 0), hp52) Q209 from ?_)
                  refine Ev.step (j := 1) (s' := ([some (.int z207)], [.int z207], (0, 0), hp52)) rfl rfl ?_
                  refine bs_lit (k := 48) rfl rfl fun z210 hz210 => ?_
                  refine bs_lt rfl (fun c211 => ?_) (fun c211 => ?_)
                  · skip
                    refine bs_lit (k := 0) rfl rfl fun z212 hz212 => ?_
                    refine bs_zret rfl rfl (by omega) (by omega) ?_
                    rw [← hQ209]
                    refine (show Ev _ 198 ([some (.ref 69), some (.int z32), some (.int k35), some (.int k51)], [.int z212], (0, 0), hp52) _ from ?_)
                    refine bs_ifeq rfl (fun c213 => ?_) (fun c213 => ?_)
                    · skip
                      have G : P0 + 1 ≤ y56 := by
                        rcases jy56 with g | g
                        · exact g
                        · have e := pz207.same g
                          omega
                      refine Ev.step (j := 299) (s' := ([some (.ref 69), some (.int z32), some (.int k35), some (.int k51)], [.ref 69], (0, 0), hp52)) rfl rfl ?_
                      refine Ev.step (j := 300) (s' := ([some (.ref 69), some (.int z32), some (.int k35), some (.int k51)], [.int k51, .ref 69], (0, 0), hp52)) rfl rfl ?_
                      refine bs_ifeq rfl (fun c214 => ?_) (fun c214 => ?_)
                      · skip
                        have c215 : k51.toInt = 0 := by omega
                        refine bs_lit (k := 4) rfl rfl fun z216 hz216 => ?_
                        refine Ev.step (j := 333) (s' := ([some (.ref 69), some (.int z32), some (.int k35), some (.int k51)], [.int z216, .ref 69], (0, 0), hp52)) rfl rfl ?_
                        refine bs_putI (W := [(11, 11, 11), (999, 0, 0)]) (g := 11) rfl rfl Hhp52 (bs_R.uq Hhp52 (g := 11) rfl) (by decide) rfl rfl rfl rfl (Or.inl rfl) (by omega) (by omega) fun hp217 Hhp217 fhp217 rhp217 ehp217 qhp217 nhp217 => ?_
                        have Fhp217 := sf_fr_tr Fhp52 (sf_fr_wider (W := [(999, 0, 0), (11, 4, 4), (11, 11, 14), (11, 17, 17)]) rfl fhp217)
                        have h218 : sf_rd hp217 69 4 = some y56 := (ehp217 _ _ (Or.inr (by omega))).trans hy56
                        have h219 : sf_rd hp217 69 13 = some y57 := (ehp217 _ _ (Or.inr (by omega))).trans hy57
                        have h220 : sf_rd hp217 69 14 = some y58 := (ehp217 _ _ (Or.inr (by omega))).trans hy58
                        have A1 := psi_ge h218 rhp217
                        have A2 := psi_ge Q4 Q11
                        have PS : sf_psi hp217 ≤ sf_psi hp := by omega
                        exact Ev.ret rfl rfl (by rw [hQ]; exact ⟨t53, Hhp217, (fr_unmark H Fhp217 PS), bs_anU, sf_S_nil⟩)
                      · skip
                        refine Ev.step (j := 304) (s' := ([some (.ref 69), some (.int z32), some (.int k35), some (.int k51)], [.ref 69, .ref 69], (0, 0), hp52)) rfl rfl ?_
                        refine bs_getI 11 rfl rfl rfl Hhp52 (bs_R.uq Hhp52 (g := 11) rfl) (by decide) rfl fun z221 hz221 lz221 gz221 => ?_
                        have e222 : z221.toInt = y57 := Option.some.inj (hz221.symm.trans hy57)
                        refine Ev.step (j := 308) (s' := ([some (.ref 69), some (.int z32), some (.int k35), some (.int k51)], [.int k35, .int z221, .ref 69], (0, 0), hp52)) rfl rfl ?_
                        refine bs_ifeq rfl (fun c223 => ?_) (fun c223 => ?_)
                        · skip
                          have c224 : k35.toInt = 0 := by omega
                          refine bs_lit (k := 3) rfl rfl fun z225 hz225 => ?_
                          refine bs_le rfl (fun c226 => ?_) (fun c226 => ?_)
                          · skip
                            refine Ev.step (j := 325) (s' := ([some (.ref 69), some (.int z32), some (.int k35), some (.int k51)], [.int k35, .ref 69], (0, 0), hp52)) rfl rfl ?_
                            refine bs_ifeq rfl (fun c227 => ?_) (fun c227 => ?_)
                            · skip
                              refine bs_lit (k := 2) rfl rfl fun z228 hz228 => ?_
                              refine bs_putI (W := [(11, 11, 11), (999, 0, 0)]) (g := 11) rfl rfl Hhp52 (bs_R.uq Hhp52 (g := 11) rfl) (by decide) rfl rfl rfl rfl (Or.inl rfl) (by omega) (by omega) fun hp229 Hhp229 fhp229 rhp229 ehp229 qhp229 nhp229 => ?_
                              have Fhp229 := sf_fr_tr Fhp52 (sf_fr_wider (W := [(999, 0, 0), (11, 4, 4), (11, 11, 14), (11, 17, 17)]) rfl fhp229)
                              have h230 : sf_rd hp229 69 4 = some y56 := (ehp229 _ _ (Or.inr (by omega))).trans hy56
                              have h231 : sf_rd hp229 69 13 = some y57 := (ehp229 _ _ (Or.inr (by omega))).trans hy57
                              have h232 : sf_rd hp229 69 14 = some y58 := (ehp229 _ _ (Or.inr (by omega))).trans hy58
                              have A1 := psi_ge h230 rhp229
                              have A2 := psi_ge Q4 Q11
                              have PS : sf_psi hp229 ≤ sf_psi hp := by omega
                              exact Ev.ret rfl rfl (by rw [hQ]; exact ⟨t53, Hhp229, (fr_unmark H Fhp229 PS), bs_anU, sf_S_nil⟩)
                            · exfalso; omega
                          · skip
                            refine bs_lit (k := 4) rfl rfl fun z233 hz233 => ?_
                            refine Ev.step (j := 333) (s' := ([some (.ref 69), some (.int z32), some (.int k35), some (.int k51)], [.int z233, .ref 69], (0, 0), hp52)) rfl rfl ?_
                            refine bs_putI (W := [(11, 11, 11), (999, 0, 0)]) (g := 11) rfl rfl Hhp52 (bs_R.uq Hhp52 (g := 11) rfl) (by decide) rfl rfl rfl rfl (Or.inl rfl) (by omega) (by omega) fun hp234 Hhp234 fhp234 rhp234 ehp234 qhp234 nhp234 => ?_
                            have Fhp234 := sf_fr_tr Fhp52 (sf_fr_wider (W := [(999, 0, 0), (11, 4, 4), (11, 11, 14), (11, 17, 17)]) rfl fhp234)
                            have h235 : sf_rd hp234 69 4 = some y56 := (ehp234 _ _ (Or.inr (by omega))).trans hy56
                            have h236 : sf_rd hp234 69 13 = some y57 := (ehp234 _ _ (Or.inr (by omega))).trans hy57
                            have h237 : sf_rd hp234 69 14 = some y58 := (ehp234 _ _ (Or.inr (by omega))).trans hy58
                            have A1 := psi_ge h235 rhp234
                            have A2 := psi_ge Q4 Q11
                            have PS : sf_psi hp234 ≤ sf_psi hp := by omega
                            exact Ev.ret rfl rfl (by rw [hQ]; exact ⟨t53, Hhp234, (fr_unmark H Fhp234 PS), bs_anU, sf_S_nil⟩)
                        · skip
                          refine bs_lit (k := 7) rfl rfl fun z238 hz238 => ?_
                          refine Ev.step (j := 317) (s' := ([some (.ref 69), some (.int z32), some (.int k35), some (.int k51)], [.int z238, .int z221, .ref 69], (0, 0), hp52)) rfl rfl ?_
                          refine bs_le rfl (fun c239 => ?_) (fun c239 => ?_)
                          · skip
                            refine Ev.step (j := 325) (s' := ([some (.ref 69), some (.int z32), some (.int k35), some (.int k51)], [.int k35, .ref 69], (0, 0), hp52)) rfl rfl ?_
                            refine bs_ifeq rfl (fun c240 => ?_) (fun c240 => ?_)
                            · skip
                              have c241 : k35.toInt = 0 := by omega
                              refine bs_lit (k := 2) rfl rfl fun z242 hz242 => ?_
                              refine bs_putI (W := [(11, 11, 11), (999, 0, 0)]) (g := 11) rfl rfl Hhp52 (bs_R.uq Hhp52 (g := 11) rfl) (by decide) rfl rfl rfl rfl (Or.inl rfl) (by omega) (by omega) fun hp243 Hhp243 fhp243 rhp243 ehp243 qhp243 nhp243 => ?_
                              have Fhp243 := sf_fr_tr Fhp52 (sf_fr_wider (W := [(999, 0, 0), (11, 4, 4), (11, 11, 14), (11, 17, 17)]) rfl fhp243)
                              have h244 : sf_rd hp243 69 4 = some y56 := (ehp243 _ _ (Or.inr (by omega))).trans hy56
                              have h245 : sf_rd hp243 69 13 = some y57 := (ehp243 _ _ (Or.inr (by omega))).trans hy57
                              have h246 : sf_rd hp243 69 14 = some y58 := (ehp243 _ _ (Or.inr (by omega))).trans hy58
                              have A1 := psi_ge h244 rhp243
                              have A2 := psi_ge Q4 Q11
                              have PS : sf_psi hp243 ≤ sf_psi hp := by omega
                              exact Ev.ret rfl rfl (by rw [hQ]; exact ⟨t53, Hhp243, (fr_unmark H Fhp243 PS), bs_anU, sf_S_nil⟩)
                            · skip
                              refine bs_lit (k := 1) rfl rfl fun z247 hz247 => ?_
                              refine Ev.step (j := 333) (s' := ([some (.ref 69), some (.int z32), some (.int k35), some (.int k51)], [.int z247, .ref 69], (0, 0), hp52)) rfl rfl ?_
                              refine bs_putI (W := [(11, 11, 11), (999, 0, 0)]) (g := 11) rfl rfl Hhp52 (bs_R.uq Hhp52 (g := 11) rfl) (by decide) rfl rfl rfl rfl (Or.inl rfl) (by omega) (by omega) fun hp248 Hhp248 fhp248 rhp248 ehp248 qhp248 nhp248 => ?_
                              have Fhp248 := sf_fr_tr Fhp52 (sf_fr_wider (W := [(999, 0, 0), (11, 4, 4), (11, 11, 14), (11, 17, 17)]) rfl fhp248)
                              have h249 : sf_rd hp248 69 4 = some y56 := (ehp248 _ _ (Or.inr (by omega))).trans hy56
                              have h250 : sf_rd hp248 69 13 = some y57 := (ehp248 _ _ (Or.inr (by omega))).trans hy57
                              have h251 : sf_rd hp248 69 14 = some y58 := (ehp248 _ _ (Or.inr (by omega))).trans hy58
                              have A1 := psi_ge h249 rhp248
                              have A2 := psi_ge Q4 Q11
                              have PS : sf_psi hp248 ≤ sf_psi hp := by omega
                              exact Ev.ret rfl rfl (by rw [hQ]; exact ⟨t53, Hhp248, (fr_unmark H Fhp248 PS), bs_anU, sf_S_nil⟩)
                          · skip
                            refine bs_lit (k := 4) rfl rfl fun z252 hz252 => ?_
                            refine Ev.step (j := 333) (s' := ([some (.ref 69), some (.int z32), some (.int k35), some (.int k51)], [.int z252, .ref 69], (0, 0), hp52)) rfl rfl ?_
                            refine bs_putI (W := [(11, 11, 11), (999, 0, 0)]) (g := 11) rfl rfl Hhp52 (bs_R.uq Hhp52 (g := 11) rfl) (by decide) rfl rfl rfl rfl (Or.inl rfl) (by omega) (by omega) fun hp253 Hhp253 fhp253 rhp253 ehp253 qhp253 nhp253 => ?_
                            have Fhp253 := sf_fr_tr Fhp52 (sf_fr_wider (W := [(999, 0, 0), (11, 4, 4), (11, 11, 14), (11, 17, 17)]) rfl fhp253)
                            have h254 : sf_rd hp253 69 4 = some y56 := (ehp253 _ _ (Or.inr (by omega))).trans hy56
                            have h255 : sf_rd hp253 69 13 = some y57 := (ehp253 _ _ (Or.inr (by omega))).trans hy57
                            have h256 : sf_rd hp253 69 14 = some y58 := (ehp253 _ _ (Or.inr (by omega))).trans hy58
                            have A1 := psi_ge h254 rhp253
                            have A2 := psi_ge Q4 Q11
                            have PS : sf_psi hp253 ≤ sf_psi hp := by omega
                            exact Ev.ret rfl rfl (by rw [hQ]; exact ⟨t53, Hhp253, (fr_unmark H Fhp253 PS), bs_anU, sf_S_nil⟩)
                    · exfalso; omega
                  · skip
                    refine Ev.step (j := 7) (s' := ([some (.int z207)], [.int z207], (0, 0), hp52)) rfl rfl ?_
                    refine bs_lit (k := 57) rfl rfl fun z257 hz257 => ?_
                    refine bs_gt rfl (fun c258 => ?_) (fun c258 => ?_)
                    · skip
                      refine bs_lit (k := 0) rfl rfl fun z259 hz259 => ?_
                      refine bs_zret rfl rfl (by omega) (by omega) ?_
                      rw [← hQ209]
                      refine (show Ev _ 198 ([some (.ref 69), some (.int z32), some (.int k35), some (.int k51)], [.int z259], (0, 0), hp52) _ from ?_)
                      refine bs_ifeq rfl (fun c260 => ?_) (fun c260 => ?_)
                      · skip
                        have G : P0 + 1 ≤ y56 := by
                          rcases jy56 with g | g
                          · exact g
                          · have e := pz207.same g
                            omega
                        refine Ev.step (j := 299) (s' := ([some (.ref 69), some (.int z32), some (.int k35), some (.int k51)], [.ref 69], (0, 0), hp52)) rfl rfl ?_
                        refine Ev.step (j := 300) (s' := ([some (.ref 69), some (.int z32), some (.int k35), some (.int k51)], [.int k51, .ref 69], (0, 0), hp52)) rfl rfl ?_
                        refine bs_ifeq rfl (fun c261 => ?_) (fun c261 => ?_)
                        · skip
                          have c262 : k51.toInt = 0 := by omega
                          refine bs_lit (k := 4) rfl rfl fun z263 hz263 => ?_
                          refine Ev.step (j := 333) (s' := ([some (.ref 69), some (.int z32), some (.int k35), some (.int k51)], [.int z263, .ref 69], (0, 0), hp52)) rfl rfl ?_
                          refine bs_putI (W := [(11, 11, 11), (999, 0, 0)]) (g := 11) rfl rfl Hhp52 (bs_R.uq Hhp52 (g := 11) rfl) (by decide) rfl rfl rfl rfl (Or.inl rfl) (by omega) (by omega) fun hp264 Hhp264 fhp264 rhp264 ehp264 qhp264 nhp264 => ?_
                          have Fhp264 := sf_fr_tr Fhp52 (sf_fr_wider (W := [(999, 0, 0), (11, 4, 4), (11, 11, 14), (11, 17, 17)]) rfl fhp264)
                          have h265 : sf_rd hp264 69 4 = some y56 := (ehp264 _ _ (Or.inr (by omega))).trans hy56
                          have h266 : sf_rd hp264 69 13 = some y57 := (ehp264 _ _ (Or.inr (by omega))).trans hy57
                          have h267 : sf_rd hp264 69 14 = some y58 := (ehp264 _ _ (Or.inr (by omega))).trans hy58
                          have A1 := psi_ge h265 rhp264
                          have A2 := psi_ge Q4 Q11
                          have PS : sf_psi hp264 ≤ sf_psi hp := by omega
                          exact Ev.ret rfl rfl (by rw [hQ]; exact ⟨t53, Hhp264, (fr_unmark H Fhp264 PS), bs_anU, sf_S_nil⟩)
                        · skip
                          refine Ev.step (j := 304) (s' := ([some (.ref 69), some (.int z32), some (.int k35), some (.int k51)], [.ref 69, .ref 69], (0, 0), hp52)) rfl rfl ?_
                          refine bs_getI 11 rfl rfl rfl Hhp52 (bs_R.uq Hhp52 (g := 11) rfl) (by decide) rfl fun z268 hz268 lz268 gz268 => ?_
                          have e269 : z268.toInt = y57 := Option.some.inj (hz268.symm.trans hy57)
                          refine Ev.step (j := 308) (s' := ([some (.ref 69), some (.int z32), some (.int k35), some (.int k51)], [.int k35, .int z268, .ref 69], (0, 0), hp52)) rfl rfl ?_
                          refine bs_ifeq rfl (fun c270 => ?_) (fun c270 => ?_)
                          · skip
                            have c271 : k35.toInt = 0 := by omega
                            refine bs_lit (k := 3) rfl rfl fun z272 hz272 => ?_
                            refine bs_le rfl (fun c273 => ?_) (fun c273 => ?_)
                            · skip
                              refine Ev.step (j := 325) (s' := ([some (.ref 69), some (.int z32), some (.int k35), some (.int k51)], [.int k35, .ref 69], (0, 0), hp52)) rfl rfl ?_
                              refine bs_ifeq rfl (fun c274 => ?_) (fun c274 => ?_)
                              · skip
                                refine bs_lit (k := 2) rfl rfl fun z275 hz275 => ?_
                                refine bs_putI (W := [(11, 11, 11), (999, 0, 0)]) (g := 11) rfl rfl Hhp52 (bs_R.uq Hhp52 (g := 11) rfl) (by decide) rfl rfl rfl rfl (Or.inl rfl) (by omega) (by omega) fun hp276 Hhp276 fhp276 rhp276 ehp276 qhp276 nhp276 => ?_
                                have Fhp276 := sf_fr_tr Fhp52 (sf_fr_wider (W := [(999, 0, 0), (11, 4, 4), (11, 11, 14), (11, 17, 17)]) rfl fhp276)
                                have h277 : sf_rd hp276 69 4 = some y56 := (ehp276 _ _ (Or.inr (by omega))).trans hy56
                                have h278 : sf_rd hp276 69 13 = some y57 := (ehp276 _ _ (Or.inr (by omega))).trans hy57
                                have h279 : sf_rd hp276 69 14 = some y58 := (ehp276 _ _ (Or.inr (by omega))).trans hy58
                                have A1 := psi_ge h277 rhp276
                                have A2 := psi_ge Q4 Q11
                                have PS : sf_psi hp276 ≤ sf_psi hp := by omega
                                exact Ev.ret rfl rfl (by rw [hQ]; exact ⟨t53, Hhp276, (fr_unmark H Fhp276 PS), bs_anU, sf_S_nil⟩)
                              · exfalso; omega
                            · skip
                              refine bs_lit (k := 4) rfl rfl fun z280 hz280 => ?_
                              refine Ev.step (j := 333) (s' := ([some (.ref 69), some (.int z32), some (.int k35), some (.int k51)], [.int z280, .ref 69], (0, 0), hp52)) rfl rfl ?_
                              refine bs_putI (W := [(11, 11, 11), (999, 0, 0)]) (g := 11) rfl rfl Hhp52 (bs_R.uq Hhp52 (g := 11) rfl) (by decide) rfl rfl rfl rfl (Or.inl rfl) (by omega) (by omega) fun hp281 Hhp281 fhp281 rhp281 ehp281 qhp281 nhp281 => ?_
                              have Fhp281 := sf_fr_tr Fhp52 (sf_fr_wider (W := [(999, 0, 0), (11, 4, 4), (11, 11, 14), (11, 17, 17)]) rfl fhp281)
                              have h282 : sf_rd hp281 69 4 = some y56 := (ehp281 _ _ (Or.inr (by omega))).trans hy56
                              have h283 : sf_rd hp281 69 13 = some y57 := (ehp281 _ _ (Or.inr (by omega))).trans hy57
                              have h284 : sf_rd hp281 69 14 = some y58 := (ehp281 _ _ (Or.inr (by omega))).trans hy58
                              have A1 := psi_ge h282 rhp281
                              have A2 := psi_ge Q4 Q11
                              have PS : sf_psi hp281 ≤ sf_psi hp := by omega
                              exact Ev.ret rfl rfl (by rw [hQ]; exact ⟨t53, Hhp281, (fr_unmark H Fhp281 PS), bs_anU, sf_S_nil⟩)
                          · skip
                            refine bs_lit (k := 7) rfl rfl fun z285 hz285 => ?_
                            refine Ev.step (j := 317) (s' := ([some (.ref 69), some (.int z32), some (.int k35), some (.int k51)], [.int z285, .int z268, .ref 69], (0, 0), hp52)) rfl rfl ?_
                            refine bs_le rfl (fun c286 => ?_) (fun c286 => ?_)
                            · skip
                              refine Ev.step (j := 325) (s' := ([some (.ref 69), some (.int z32), some (.int k35), some (.int k51)], [.int k35, .ref 69], (0, 0), hp52)) rfl rfl ?_
                              refine bs_ifeq rfl (fun c287 => ?_) (fun c287 => ?_)
                              · skip
                                have c288 : k35.toInt = 0 := by omega
                                refine bs_lit (k := 2) rfl rfl fun z289 hz289 => ?_
                                refine bs_putI (W := [(11, 11, 11), (999, 0, 0)]) (g := 11) rfl rfl Hhp52 (bs_R.uq Hhp52 (g := 11) rfl) (by decide) rfl rfl rfl rfl (Or.inl rfl) (by omega) (by omega) fun hp290 Hhp290 fhp290 rhp290 ehp290 qhp290 nhp290 => ?_
                                have Fhp290 := sf_fr_tr Fhp52 (sf_fr_wider (W := [(999, 0, 0), (11, 4, 4), (11, 11, 14), (11, 17, 17)]) rfl fhp290)
                                have h291 : sf_rd hp290 69 4 = some y56 := (ehp290 _ _ (Or.inr (by omega))).trans hy56
                                have h292 : sf_rd hp290 69 13 = some y57 := (ehp290 _ _ (Or.inr (by omega))).trans hy57
                                have h293 : sf_rd hp290 69 14 = some y58 := (ehp290 _ _ (Or.inr (by omega))).trans hy58
                                have A1 := psi_ge h291 rhp290
                                have A2 := psi_ge Q4 Q11
                                have PS : sf_psi hp290 ≤ sf_psi hp := by omega
                                exact Ev.ret rfl rfl (by rw [hQ]; exact ⟨t53, Hhp290, (fr_unmark H Fhp290 PS), bs_anU, sf_S_nil⟩)
                              · skip
                                refine bs_lit (k := 1) rfl rfl fun z294 hz294 => ?_
                                refine Ev.step (j := 333) (s' := ([some (.ref 69), some (.int z32), some (.int k35), some (.int k51)], [.int z294, .ref 69], (0, 0), hp52)) rfl rfl ?_
                                refine bs_putI (W := [(11, 11, 11), (999, 0, 0)]) (g := 11) rfl rfl Hhp52 (bs_R.uq Hhp52 (g := 11) rfl) (by decide) rfl rfl rfl rfl (Or.inl rfl) (by omega) (by omega) fun hp295 Hhp295 fhp295 rhp295 ehp295 qhp295 nhp295 => ?_
                                have Fhp295 := sf_fr_tr Fhp52 (sf_fr_wider (W := [(999, 0, 0), (11, 4, 4), (11, 11, 14), (11, 17, 17)]) rfl fhp295)
                                have h296 : sf_rd hp295 69 4 = some y56 := (ehp295 _ _ (Or.inr (by omega))).trans hy56
                                have h297 : sf_rd hp295 69 13 = some y57 := (ehp295 _ _ (Or.inr (by omega))).trans hy57
                                have h298 : sf_rd hp295 69 14 = some y58 := (ehp295 _ _ (Or.inr (by omega))).trans hy58
                                have A1 := psi_ge h296 rhp295
                                have A2 := psi_ge Q4 Q11
                                have PS : sf_psi hp295 ≤ sf_psi hp := by omega
                                exact Ev.ret rfl rfl (by rw [hQ]; exact ⟨t53, Hhp295, (fr_unmark H Fhp295 PS), bs_anU, sf_S_nil⟩)
                            · skip
                              refine bs_lit (k := 4) rfl rfl fun z299 hz299 => ?_
                              refine Ev.step (j := 333) (s' := ([some (.ref 69), some (.int z32), some (.int k35), some (.int k51)], [.int z299, .ref 69], (0, 0), hp52)) rfl rfl ?_
                              refine bs_putI (W := [(11, 11, 11), (999, 0, 0)]) (g := 11) rfl rfl Hhp52 (bs_R.uq Hhp52 (g := 11) rfl) (by decide) rfl rfl rfl rfl (Or.inl rfl) (by omega) (by omega) fun hp300 Hhp300 fhp300 rhp300 ehp300 qhp300 nhp300 => ?_
                              have Fhp300 := sf_fr_tr Fhp52 (sf_fr_wider (W := [(999, 0, 0), (11, 4, 4), (11, 11, 14), (11, 17, 17)]) rfl fhp300)
                              have h301 : sf_rd hp300 69 4 = some y56 := (ehp300 _ _ (Or.inr (by omega))).trans hy56
                              have h302 : sf_rd hp300 69 13 = some y57 := (ehp300 _ _ (Or.inr (by omega))).trans hy57
                              have h303 : sf_rd hp300 69 14 = some y58 := (ehp300 _ _ (Or.inr (by omega))).trans hy58
                              have A1 := psi_ge h301 rhp300
                              have A2 := psi_ge Q4 Q11
                              have PS : sf_psi hp300 ≤ sf_psi hp := by omega
                              exact Ev.ret rfl rfl (by rw [hQ]; exact ⟨t53, Hhp300, (fr_unmark H Fhp300 PS), bs_anU, sf_S_nil⟩)
                      · exfalso; omega
                    · skip
                      refine bs_lit (k := 1) rfl rfl fun z304 hz304 => ?_
                      refine Ev.step (j := 17) (s' := ([some (.int z207)], [.int z304], (0, 0), hp52)) rfl rfl ?_
                      refine bs_zret rfl rfl (by omega) (by omega) ?_
                      rw [← hQ209]
                      refine (show Ev _ 198 ([some (.ref 69), some (.int z32), some (.int k35), some (.int k51)], [.int z304], (0, 0), hp52) _ from ?_)
                      refine bs_ifeq rfl (fun c305 => ?_) (fun c305 => ?_)
                      · exfalso; omega
                      · skip
                        exact cut60 hp52 t53 Hhp52 Fhp52 hy56 hy57 hy58 (by first | omega | assumption) (by first | omega | assumption)
              · skip
                refine Ev.step (j := 7) (s' := ([some (.int z59)], [.int z59], (0, 0), hp52)) rfl rfl ?_
                refine bs_lit (k := 122) rfl rfl fun z306 hz306 => ?_
                refine bs_gt rfl (fun c307 => ?_) (fun c307 => ?_)
                · skip
                  refine bs_lit (k := 0) rfl rfl fun z308 hz308 => ?_
                  refine bs_zret rfl rfl (by omega) (by omega) ?_
                  rw [← hQ202]
                  refine (show Ev _ 188 ([some (.ref 69), some (.int z32), some (.int k35), some (.int k51)], [.int z308], (0, 0), hp52) _ from ?_)
                  refine bs_ifne rfl (fun c309 => ?_) (fun c309 => ?_)
                  · exfalso; omega
                  · skip
                    refine Ev.step (j := 192) (s' := ([some (.ref 69), some (.int z32), some (.int k35), some (.int k51)], [.ref 69], (0, 0), hp52)) rfl rfl ?_
                    refine pk_ev rfl Hhp52 rfl fun z310 pz310 oz310 mz310 => ?_
                    replace mz310 := mz310 _ hy56
                    have e311 : z310.toInt = z59.toInt := pz310.same pz59
                    refine (show Ev _ 195 ([some (.ref 69), some (.int z32), some (.int k35), some (.int k51)], [.int z310], (0, 0), hp52) _ from ?_)
                    refine Ev.inlS (L := L_X11_isDigit) (nL := 1) rfl rfl (Nat.le_of_ble_eq_true rfl) ?_
                    generalize hQ312 : (fun (o : ab_O) => Ev _ _ _ _) = Q312
                    refine (show Ev (ab_T L_X11_isDigit) 0 ([some (.int z310)], [], (0, 0), hp52) Q312 from ?_)
                    refine Ev.step (j := 1) (s' := ([some (.int z310)], [.int z310], (0, 0), hp52)) rfl rfl ?_
                    refine bs_lit (k := 48) rfl rfl fun z313 hz313 => ?_
                    refine bs_lt rfl (fun c314 => ?_) (fun c314 => ?_)
                    · skip
                      refine bs_lit (k := 0) rfl rfl fun z315 hz315 => ?_
                      refine bs_zret rfl rfl (by omega) (by omega) ?_
                      rw [← hQ312]
                      refine (show Ev _ 198 ([some (.ref 69), some (.int z32), some (.int k35), some (.int k51)], [.int z315], (0, 0), hp52) _ from ?_)
                      refine bs_ifeq rfl (fun c316 => ?_) (fun c316 => ?_)
                      · skip
                        have G : P0 + 1 ≤ y56 := by
                          rcases jy56 with g | g
                          · exact g
                          · have e := pz310.same g
                            omega
                        refine Ev.step (j := 299) (s' := ([some (.ref 69), some (.int z32), some (.int k35), some (.int k51)], [.ref 69], (0, 0), hp52)) rfl rfl ?_
                        refine Ev.step (j := 300) (s' := ([some (.ref 69), some (.int z32), some (.int k35), some (.int k51)], [.int k51, .ref 69], (0, 0), hp52)) rfl rfl ?_
                        refine bs_ifeq rfl (fun c317 => ?_) (fun c317 => ?_)
                        · skip
                          have c318 : k51.toInt = 0 := by omega
                          refine bs_lit (k := 4) rfl rfl fun z319 hz319 => ?_
                          refine Ev.step (j := 333) (s' := ([some (.ref 69), some (.int z32), some (.int k35), some (.int k51)], [.int z319, .ref 69], (0, 0), hp52)) rfl rfl ?_
                          refine bs_putI (W := [(11, 11, 11), (999, 0, 0)]) (g := 11) rfl rfl Hhp52 (bs_R.uq Hhp52 (g := 11) rfl) (by decide) rfl rfl rfl rfl (Or.inl rfl) (by omega) (by omega) fun hp320 Hhp320 fhp320 rhp320 ehp320 qhp320 nhp320 => ?_
                          have Fhp320 := sf_fr_tr Fhp52 (sf_fr_wider (W := [(999, 0, 0), (11, 4, 4), (11, 11, 14), (11, 17, 17)]) rfl fhp320)
                          have h321 : sf_rd hp320 69 4 = some y56 := (ehp320 _ _ (Or.inr (by omega))).trans hy56
                          have h322 : sf_rd hp320 69 13 = some y57 := (ehp320 _ _ (Or.inr (by omega))).trans hy57
                          have h323 : sf_rd hp320 69 14 = some y58 := (ehp320 _ _ (Or.inr (by omega))).trans hy58
                          have A1 := psi_ge h321 rhp320
                          have A2 := psi_ge Q4 Q11
                          have PS : sf_psi hp320 ≤ sf_psi hp := by omega
                          exact Ev.ret rfl rfl (by rw [hQ]; exact ⟨t53, Hhp320, (fr_unmark H Fhp320 PS), bs_anU, sf_S_nil⟩)
                        · skip
                          refine Ev.step (j := 304) (s' := ([some (.ref 69), some (.int z32), some (.int k35), some (.int k51)], [.ref 69, .ref 69], (0, 0), hp52)) rfl rfl ?_
                          refine bs_getI 11 rfl rfl rfl Hhp52 (bs_R.uq Hhp52 (g := 11) rfl) (by decide) rfl fun z324 hz324 lz324 gz324 => ?_
                          have e325 : z324.toInt = y57 := Option.some.inj (hz324.symm.trans hy57)
                          refine Ev.step (j := 308) (s' := ([some (.ref 69), some (.int z32), some (.int k35), some (.int k51)], [.int k35, .int z324, .ref 69], (0, 0), hp52)) rfl rfl ?_
                          refine bs_ifeq rfl (fun c326 => ?_) (fun c326 => ?_)
                          · skip
                            have c327 : k35.toInt = 0 := by omega
                            refine bs_lit (k := 3) rfl rfl fun z328 hz328 => ?_
                            refine bs_le rfl (fun c329 => ?_) (fun c329 => ?_)
                            · skip
                              refine Ev.step (j := 325) (s' := ([some (.ref 69), some (.int z32), some (.int k35), some (.int k51)], [.int k35, .ref 69], (0, 0), hp52)) rfl rfl ?_
                              refine bs_ifeq rfl (fun c330 => ?_) (fun c330 => ?_)
                              · skip
                                refine bs_lit (k := 2) rfl rfl fun z331 hz331 => ?_
                                refine bs_putI (W := [(11, 11, 11), (999, 0, 0)]) (g := 11) rfl rfl Hhp52 (bs_R.uq Hhp52 (g := 11) rfl) (by decide) rfl rfl rfl rfl (Or.inl rfl) (by omega) (by omega) fun hp332 Hhp332 fhp332 rhp332 ehp332 qhp332 nhp332 => ?_
                                have Fhp332 := sf_fr_tr Fhp52 (sf_fr_wider (W := [(999, 0, 0), (11, 4, 4), (11, 11, 14), (11, 17, 17)]) rfl fhp332)
                                have h333 : sf_rd hp332 69 4 = some y56 := (ehp332 _ _ (Or.inr (by omega))).trans hy56
                                have h334 : sf_rd hp332 69 13 = some y57 := (ehp332 _ _ (Or.inr (by omega))).trans hy57
                                have h335 : sf_rd hp332 69 14 = some y58 := (ehp332 _ _ (Or.inr (by omega))).trans hy58
                                have A1 := psi_ge h333 rhp332
                                have A2 := psi_ge Q4 Q11
                                have PS : sf_psi hp332 ≤ sf_psi hp := by omega
                                exact Ev.ret rfl rfl (by rw [hQ]; exact ⟨t53, Hhp332, (fr_unmark H Fhp332 PS), bs_anU, sf_S_nil⟩)
                              · exfalso; omega
                            · skip
                              refine bs_lit (k := 4) rfl rfl fun z336 hz336 => ?_
                              refine Ev.step (j := 333) (s' := ([some (.ref 69), some (.int z32), some (.int k35), some (.int k51)], [.int z336, .ref 69], (0, 0), hp52)) rfl rfl ?_
                              refine bs_putI (W := [(11, 11, 11), (999, 0, 0)]) (g := 11) rfl rfl Hhp52 (bs_R.uq Hhp52 (g := 11) rfl) (by decide) rfl rfl rfl rfl (Or.inl rfl) (by omega) (by omega) fun hp337 Hhp337 fhp337 rhp337 ehp337 qhp337 nhp337 => ?_
                              have Fhp337 := sf_fr_tr Fhp52 (sf_fr_wider (W := [(999, 0, 0), (11, 4, 4), (11, 11, 14), (11, 17, 17)]) rfl fhp337)
                              have h338 : sf_rd hp337 69 4 = some y56 := (ehp337 _ _ (Or.inr (by omega))).trans hy56
                              have h339 : sf_rd hp337 69 13 = some y57 := (ehp337 _ _ (Or.inr (by omega))).trans hy57
                              have h340 : sf_rd hp337 69 14 = some y58 := (ehp337 _ _ (Or.inr (by omega))).trans hy58
                              have A1 := psi_ge h338 rhp337
                              have A2 := psi_ge Q4 Q11
                              have PS : sf_psi hp337 ≤ sf_psi hp := by omega
                              exact Ev.ret rfl rfl (by rw [hQ]; exact ⟨t53, Hhp337, (fr_unmark H Fhp337 PS), bs_anU, sf_S_nil⟩)
                          · skip
                            refine bs_lit (k := 7) rfl rfl fun z341 hz341 => ?_
                            refine Ev.step (j := 317) (s' := ([some (.ref 69), some (.int z32), some (.int k35), some (.int k51)], [.int z341, .int z324, .ref 69], (0, 0), hp52)) rfl rfl ?_
                            refine bs_le rfl (fun c342 => ?_) (fun c342 => ?_)
                            · skip
                              refine Ev.step (j := 325) (s' := ([some (.ref 69), some (.int z32), some (.int k35), some (.int k51)], [.int k35, .ref 69], (0, 0), hp52)) rfl rfl ?_
                              refine bs_ifeq rfl (fun c343 => ?_) (fun c343 => ?_)
                              · skip
                                have c344 : k35.toInt = 0 := by omega
                                refine bs_lit (k := 2) rfl rfl fun z345 hz345 => ?_
                                refine bs_putI (W := [(11, 11, 11), (999, 0, 0)]) (g := 11) rfl rfl Hhp52 (bs_R.uq Hhp52 (g := 11) rfl) (by decide) rfl rfl rfl rfl (Or.inl rfl) (by omega) (by omega) fun hp346 Hhp346 fhp346 rhp346 ehp346 qhp346 nhp346 => ?_
                                have Fhp346 := sf_fr_tr Fhp52 (sf_fr_wider (W := [(999, 0, 0), (11, 4, 4), (11, 11, 14), (11, 17, 17)]) rfl fhp346)
                                have h347 : sf_rd hp346 69 4 = some y56 := (ehp346 _ _ (Or.inr (by omega))).trans hy56
                                have h348 : sf_rd hp346 69 13 = some y57 := (ehp346 _ _ (Or.inr (by omega))).trans hy57
                                have h349 : sf_rd hp346 69 14 = some y58 := (ehp346 _ _ (Or.inr (by omega))).trans hy58
                                have A1 := psi_ge h347 rhp346
                                have A2 := psi_ge Q4 Q11
                                have PS : sf_psi hp346 ≤ sf_psi hp := by omega
                                exact Ev.ret rfl rfl (by rw [hQ]; exact ⟨t53, Hhp346, (fr_unmark H Fhp346 PS), bs_anU, sf_S_nil⟩)
                              · skip
                                refine bs_lit (k := 1) rfl rfl fun z350 hz350 => ?_
                                refine Ev.step (j := 333) (s' := ([some (.ref 69), some (.int z32), some (.int k35), some (.int k51)], [.int z350, .ref 69], (0, 0), hp52)) rfl rfl ?_
                                refine bs_putI (W := [(11, 11, 11), (999, 0, 0)]) (g := 11) rfl rfl Hhp52 (bs_R.uq Hhp52 (g := 11) rfl) (by decide) rfl rfl rfl rfl (Or.inl rfl) (by omega) (by omega) fun hp351 Hhp351 fhp351 rhp351 ehp351 qhp351 nhp351 => ?_
                                have Fhp351 := sf_fr_tr Fhp52 (sf_fr_wider (W := [(999, 0, 0), (11, 4, 4), (11, 11, 14), (11, 17, 17)]) rfl fhp351)
                                have h352 : sf_rd hp351 69 4 = some y56 := (ehp351 _ _ (Or.inr (by omega))).trans hy56
                                have h353 : sf_rd hp351 69 13 = some y57 := (ehp351 _ _ (Or.inr (by omega))).trans hy57
                                have h354 : sf_rd hp351 69 14 = some y58 := (ehp351 _ _ (Or.inr (by omega))).trans hy58
                                have A1 := psi_ge h352 rhp351
                                have A2 := psi_ge Q4 Q11
                                have PS : sf_psi hp351 ≤ sf_psi hp := by omega
                                exact Ev.ret rfl rfl (by rw [hQ]; exact ⟨t53, Hhp351, (fr_unmark H Fhp351 PS), bs_anU, sf_S_nil⟩)
                            · skip
                              refine bs_lit (k := 4) rfl rfl fun z355 hz355 => ?_
                              refine Ev.step (j := 333) (s' := ([some (.ref 69), some (.int z32), some (.int k35), some (.int k51)], [.int z355, .ref 69], (0, 0), hp52)) rfl rfl ?_
                              refine bs_putI (W := [(11, 11, 11), (999, 0, 0)]) (g := 11) rfl rfl Hhp52 (bs_R.uq Hhp52 (g := 11) rfl) (by decide) rfl rfl rfl rfl (Or.inl rfl) (by omega) (by omega) fun hp356 Hhp356 fhp356 rhp356 ehp356 qhp356 nhp356 => ?_
                              have Fhp356 := sf_fr_tr Fhp52 (sf_fr_wider (W := [(999, 0, 0), (11, 4, 4), (11, 11, 14), (11, 17, 17)]) rfl fhp356)
                              have h357 : sf_rd hp356 69 4 = some y56 := (ehp356 _ _ (Or.inr (by omega))).trans hy56
                              have h358 : sf_rd hp356 69 13 = some y57 := (ehp356 _ _ (Or.inr (by omega))).trans hy57
                              have h359 : sf_rd hp356 69 14 = some y58 := (ehp356 _ _ (Or.inr (by omega))).trans hy58
                              have A1 := psi_ge h357 rhp356
                              have A2 := psi_ge Q4 Q11
                              have PS : sf_psi hp356 ≤ sf_psi hp := by omega
                              exact Ev.ret rfl rfl (by rw [hQ]; exact ⟨t53, Hhp356, (fr_unmark H Fhp356 PS), bs_anU, sf_S_nil⟩)
                      · exfalso; omega
                    · skip
                      refine Ev.step (j := 7) (s' := ([some (.int z310)], [.int z310], (0, 0), hp52)) rfl rfl ?_
                      refine bs_lit (k := 57) rfl rfl fun z360 hz360 => ?_
                      refine bs_gt rfl (fun c361 => ?_) (fun c361 => ?_)
                      · skip
                        refine bs_lit (k := 0) rfl rfl fun z362 hz362 => ?_
                        refine bs_zret rfl rfl (by omega) (by omega) ?_
                        rw [← hQ312]
                        refine (show Ev _ 198 ([some (.ref 69), some (.int z32), some (.int k35), some (.int k51)], [.int z362], (0, 0), hp52) _ from ?_)
                        refine bs_ifeq rfl (fun c363 => ?_) (fun c363 => ?_)
                        · skip
                          have G : P0 + 1 ≤ y56 := by
                            rcases jy56 with g | g
                            · exact g
                            · have e := pz310.same g
                              omega
                          refine Ev.step (j := 299) (s' := ([some (.ref 69), some (.int z32), some (.int k35), some (.int k51)], [.ref 69], (0, 0), hp52)) rfl rfl ?_
                          refine Ev.step (j := 300) (s' := ([some (.ref 69), some (.int z32), some (.int k35), some (.int k51)], [.int k51, .ref 69], (0, 0), hp52)) rfl rfl ?_
                          refine bs_ifeq rfl (fun c364 => ?_) (fun c364 => ?_)
                          · skip
                            have c365 : k51.toInt = 0 := by omega
                            refine bs_lit (k := 4) rfl rfl fun z366 hz366 => ?_
                            refine Ev.step (j := 333) (s' := ([some (.ref 69), some (.int z32), some (.int k35), some (.int k51)], [.int z366, .ref 69], (0, 0), hp52)) rfl rfl ?_
                            refine bs_putI (W := [(11, 11, 11), (999, 0, 0)]) (g := 11) rfl rfl Hhp52 (bs_R.uq Hhp52 (g := 11) rfl) (by decide) rfl rfl rfl rfl (Or.inl rfl) (by omega) (by omega) fun hp367 Hhp367 fhp367 rhp367 ehp367 qhp367 nhp367 => ?_
                            have Fhp367 := sf_fr_tr Fhp52 (sf_fr_wider (W := [(999, 0, 0), (11, 4, 4), (11, 11, 14), (11, 17, 17)]) rfl fhp367)
                            have h368 : sf_rd hp367 69 4 = some y56 := (ehp367 _ _ (Or.inr (by omega))).trans hy56
                            have h369 : sf_rd hp367 69 13 = some y57 := (ehp367 _ _ (Or.inr (by omega))).trans hy57
                            have h370 : sf_rd hp367 69 14 = some y58 := (ehp367 _ _ (Or.inr (by omega))).trans hy58
                            have A1 := psi_ge h368 rhp367
                            have A2 := psi_ge Q4 Q11
                            have PS : sf_psi hp367 ≤ sf_psi hp := by omega
                            exact Ev.ret rfl rfl (by rw [hQ]; exact ⟨t53, Hhp367, (fr_unmark H Fhp367 PS), bs_anU, sf_S_nil⟩)
                          · skip
                            refine Ev.step (j := 304) (s' := ([some (.ref 69), some (.int z32), some (.int k35), some (.int k51)], [.ref 69, .ref 69], (0, 0), hp52)) rfl rfl ?_
                            refine bs_getI 11 rfl rfl rfl Hhp52 (bs_R.uq Hhp52 (g := 11) rfl) (by decide) rfl fun z371 hz371 lz371 gz371 => ?_
                            have e372 : z371.toInt = y57 := Option.some.inj (hz371.symm.trans hy57)
                            refine Ev.step (j := 308) (s' := ([some (.ref 69), some (.int z32), some (.int k35), some (.int k51)], [.int k35, .int z371, .ref 69], (0, 0), hp52)) rfl rfl ?_
                            refine bs_ifeq rfl (fun c373 => ?_) (fun c373 => ?_)
                            · skip
                              have c374 : k35.toInt = 0 := by omega
                              refine bs_lit (k := 3) rfl rfl fun z375 hz375 => ?_
                              refine bs_le rfl (fun c376 => ?_) (fun c376 => ?_)
                              · skip
                                refine Ev.step (j := 325) (s' := ([some (.ref 69), some (.int z32), some (.int k35), some (.int k51)], [.int k35, .ref 69], (0, 0), hp52)) rfl rfl ?_
                                refine bs_ifeq rfl (fun c377 => ?_) (fun c377 => ?_)
                                · skip
                                  refine bs_lit (k := 2) rfl rfl fun z378 hz378 => ?_
                                  refine bs_putI (W := [(11, 11, 11), (999, 0, 0)]) (g := 11) rfl rfl Hhp52 (bs_R.uq Hhp52 (g := 11) rfl) (by decide) rfl rfl rfl rfl (Or.inl rfl) (by omega) (by omega) fun hp379 Hhp379 fhp379 rhp379 ehp379 qhp379 nhp379 => ?_
                                  have Fhp379 := sf_fr_tr Fhp52 (sf_fr_wider (W := [(999, 0, 0), (11, 4, 4), (11, 11, 14), (11, 17, 17)]) rfl fhp379)
                                  have h380 : sf_rd hp379 69 4 = some y56 := (ehp379 _ _ (Or.inr (by omega))).trans hy56
                                  have h381 : sf_rd hp379 69 13 = some y57 := (ehp379 _ _ (Or.inr (by omega))).trans hy57
                                  have h382 : sf_rd hp379 69 14 = some y58 := (ehp379 _ _ (Or.inr (by omega))).trans hy58
                                  have A1 := psi_ge h380 rhp379
                                  have A2 := psi_ge Q4 Q11
                                  have PS : sf_psi hp379 ≤ sf_psi hp := by omega
                                  exact Ev.ret rfl rfl (by rw [hQ]; exact ⟨t53, Hhp379, (fr_unmark H Fhp379 PS), bs_anU, sf_S_nil⟩)
                                · exfalso; omega
                              · skip
                                refine bs_lit (k := 4) rfl rfl fun z383 hz383 => ?_
                                refine Ev.step (j := 333) (s' := ([some (.ref 69), some (.int z32), some (.int k35), some (.int k51)], [.int z383, .ref 69], (0, 0), hp52)) rfl rfl ?_
                                refine bs_putI (W := [(11, 11, 11), (999, 0, 0)]) (g := 11) rfl rfl Hhp52 (bs_R.uq Hhp52 (g := 11) rfl) (by decide) rfl rfl rfl rfl (Or.inl rfl) (by omega) (by omega) fun hp384 Hhp384 fhp384 rhp384 ehp384 qhp384 nhp384 => ?_
                                have Fhp384 := sf_fr_tr Fhp52 (sf_fr_wider (W := [(999, 0, 0), (11, 4, 4), (11, 11, 14), (11, 17, 17)]) rfl fhp384)
                                have h385 : sf_rd hp384 69 4 = some y56 := (ehp384 _ _ (Or.inr (by omega))).trans hy56
                                have h386 : sf_rd hp384 69 13 = some y57 := (ehp384 _ _ (Or.inr (by omega))).trans hy57
                                have h387 : sf_rd hp384 69 14 = some y58 := (ehp384 _ _ (Or.inr (by omega))).trans hy58
                                have A1 := psi_ge h385 rhp384
                                have A2 := psi_ge Q4 Q11
                                have PS : sf_psi hp384 ≤ sf_psi hp := by omega
                                exact Ev.ret rfl rfl (by rw [hQ]; exact ⟨t53, Hhp384, (fr_unmark H Fhp384 PS), bs_anU, sf_S_nil⟩)
                            · skip
                              refine bs_lit (k := 7) rfl rfl fun z388 hz388 => ?_
                              refine Ev.step (j := 317) (s' := ([some (.ref 69), some (.int z32), some (.int k35), some (.int k51)], [.int z388, .int z371, .ref 69], (0, 0), hp52)) rfl rfl ?_
                              refine bs_le rfl (fun c389 => ?_) (fun c389 => ?_)
                              · skip
                                refine Ev.step (j := 325) (s' := ([some (.ref 69), some (.int z32), some (.int k35), some (.int k51)], [.int k35, .ref 69], (0, 0), hp52)) rfl rfl ?_
                                refine bs_ifeq rfl (fun c390 => ?_) (fun c390 => ?_)
                                · skip
                                  have c391 : k35.toInt = 0 := by omega
                                  refine bs_lit (k := 2) rfl rfl fun z392 hz392 => ?_
                                  refine bs_putI (W := [(11, 11, 11), (999, 0, 0)]) (g := 11) rfl rfl Hhp52 (bs_R.uq Hhp52 (g := 11) rfl) (by decide) rfl rfl rfl rfl (Or.inl rfl) (by omega) (by omega) fun hp393 Hhp393 fhp393 rhp393 ehp393 qhp393 nhp393 => ?_
                                  have Fhp393 := sf_fr_tr Fhp52 (sf_fr_wider (W := [(999, 0, 0), (11, 4, 4), (11, 11, 14), (11, 17, 17)]) rfl fhp393)
                                  have h394 : sf_rd hp393 69 4 = some y56 := (ehp393 _ _ (Or.inr (by omega))).trans hy56
                                  have h395 : sf_rd hp393 69 13 = some y57 := (ehp393 _ _ (Or.inr (by omega))).trans hy57
                                  have h396 : sf_rd hp393 69 14 = some y58 := (ehp393 _ _ (Or.inr (by omega))).trans hy58
                                  have A1 := psi_ge h394 rhp393
                                  have A2 := psi_ge Q4 Q11
                                  have PS : sf_psi hp393 ≤ sf_psi hp := by omega
                                  exact Ev.ret rfl rfl (by rw [hQ]; exact ⟨t53, Hhp393, (fr_unmark H Fhp393 PS), bs_anU, sf_S_nil⟩)
                                · skip
                                  refine bs_lit (k := 1) rfl rfl fun z397 hz397 => ?_
                                  refine Ev.step (j := 333) (s' := ([some (.ref 69), some (.int z32), some (.int k35), some (.int k51)], [.int z397, .ref 69], (0, 0), hp52)) rfl rfl ?_
                                  refine bs_putI (W := [(11, 11, 11), (999, 0, 0)]) (g := 11) rfl rfl Hhp52 (bs_R.uq Hhp52 (g := 11) rfl) (by decide) rfl rfl rfl rfl (Or.inl rfl) (by omega) (by omega) fun hp398 Hhp398 fhp398 rhp398 ehp398 qhp398 nhp398 => ?_
                                  have Fhp398 := sf_fr_tr Fhp52 (sf_fr_wider (W := [(999, 0, 0), (11, 4, 4), (11, 11, 14), (11, 17, 17)]) rfl fhp398)
                                  have h399 : sf_rd hp398 69 4 = some y56 := (ehp398 _ _ (Or.inr (by omega))).trans hy56
                                  have h400 : sf_rd hp398 69 13 = some y57 := (ehp398 _ _ (Or.inr (by omega))).trans hy57
                                  have h401 : sf_rd hp398 69 14 = some y58 := (ehp398 _ _ (Or.inr (by omega))).trans hy58
                                  have A1 := psi_ge h399 rhp398
                                  have A2 := psi_ge Q4 Q11
                                  have PS : sf_psi hp398 ≤ sf_psi hp := by omega
                                  exact Ev.ret rfl rfl (by rw [hQ]; exact ⟨t53, Hhp398, (fr_unmark H Fhp398 PS), bs_anU, sf_S_nil⟩)
                              · skip
                                refine bs_lit (k := 4) rfl rfl fun z402 hz402 => ?_
                                refine Ev.step (j := 333) (s' := ([some (.ref 69), some (.int z32), some (.int k35), some (.int k51)], [.int z402, .ref 69], (0, 0), hp52)) rfl rfl ?_
                                refine bs_putI (W := [(11, 11, 11), (999, 0, 0)]) (g := 11) rfl rfl Hhp52 (bs_R.uq Hhp52 (g := 11) rfl) (by decide) rfl rfl rfl rfl (Or.inl rfl) (by omega) (by omega) fun hp403 Hhp403 fhp403 rhp403 ehp403 qhp403 nhp403 => ?_
                                have Fhp403 := sf_fr_tr Fhp52 (sf_fr_wider (W := [(999, 0, 0), (11, 4, 4), (11, 11, 14), (11, 17, 17)]) rfl fhp403)
                                have h404 : sf_rd hp403 69 4 = some y56 := (ehp403 _ _ (Or.inr (by omega))).trans hy56
                                have h405 : sf_rd hp403 69 13 = some y57 := (ehp403 _ _ (Or.inr (by omega))).trans hy57
                                have h406 : sf_rd hp403 69 14 = some y58 := (ehp403 _ _ (Or.inr (by omega))).trans hy58
                                have A1 := psi_ge h404 rhp403
                                have A2 := psi_ge Q4 Q11
                                have PS : sf_psi hp403 ≤ sf_psi hp := by omega
                                exact Ev.ret rfl rfl (by rw [hQ]; exact ⟨t53, Hhp403, (fr_unmark H Fhp403 PS), bs_anU, sf_S_nil⟩)
                        · exfalso; omega
                      · skip
                        refine bs_lit (k := 1) rfl rfl fun z407 hz407 => ?_
                        refine Ev.step (j := 17) (s' := ([some (.int z310)], [.int z407], (0, 0), hp52)) rfl rfl ?_
                        refine bs_zret rfl rfl (by omega) (by omega) ?_
                        rw [← hQ312]
                        refine (show Ev _ 198 ([some (.ref 69), some (.int z32), some (.int k35), some (.int k51)], [.int z407], (0, 0), hp52) _ from ?_)
                        refine bs_ifeq rfl (fun c408 => ?_) (fun c408 => ?_)
                        · exfalso; omega
                        · skip
                          exact cut60 hp52 t53 Hhp52 Fhp52 hy56 hy57 hy58 (by first | omega | assumption) (by first | omega | assumption)
                · skip
                  refine bs_lit (k := 1) rfl rfl fun z409 hz409 => ?_
                  refine Ev.step (j := 17) (s' := ([some (.int z59)], [.int z409], (0, 0), hp52)) rfl rfl ?_
                  refine bs_zret rfl rfl (by omega) (by omega) ?_
                  rw [← hQ202]
                  refine (show Ev _ 188 ([some (.ref 69), some (.int z32), some (.int k35), some (.int k51)], [.int z409], (0, 0), hp52) _ from ?_)
                  refine bs_ifne rfl (fun c410 => ?_) (fun c410 => ?_)
                  · skip
                    exact cut60 hp52 t53 Hhp52 Fhp52 hy56 hy57 hy58 (by first | omega | assumption) (by first | omega | assumption)
                  · exfalso; omega
            refine Ev.step (j := 96) (s' := ([some (.ref 69), some (.int z32), none, none], [.int z32], (0, 0), hp28)) rfl rfl ?_
            refine Ev.inlS (L := L_X11_isSmall) (nL := 1) rfl rfl (Nat.le_of_ble_eq_true rfl) ?_
            generalize hQ411 : (fun (o : ab_O) => Ev _ _ _ _) = Q411
            refine (show Ev (ab_T L_X11_isSmall) 0 ([some (.int z32)], [], (0, 0), hp28) Q411 from ?_)
            refine Ev.step (j := 1) (s' := ([some (.int z32)], [.int z32], (0, 0), hp28)) rfl rfl ?_
            refine bs_lit (k := 97) rfl rfl fun z412 hz412 => ?_
            refine bs_lt rfl (fun c413 => ?_) (fun c413 => ?_)
            · skip
              refine bs_lit (k := 0) rfl rfl fun z414 hz414 => ?_
              refine bs_zret rfl rfl (by omega) (by omega) ?_
              rw [← hQ411]
              refine (show Ev _ 99 ([some (.ref 69), some (.int z32), none, none], [.int z414], (0, 0), hp28) _ from ?_)
              refine bs_ifne rfl (fun c415 => ?_) (fun c415 => ?_)
              · exfalso; omega
              · skip
                refine Ev.step (j := 103) (s' := ([some (.ref 69), some (.int z32), none, none], [.int z32], (0, 0), hp28)) rfl rfl ?_
                refine Ev.inlS (L := L_X11_isDigit) (nL := 1) rfl rfl (Nat.le_of_ble_eq_true rfl) ?_
                generalize hQ416 : (fun (o : ab_O) => Ev _ _ _ _) = Q416
                refine (show Ev (ab_T L_X11_isDigit) 0 ([some (.int z32)], [], (0, 0), hp28) Q416 from ?_)
                refine Ev.step (j := 1) (s' := ([some (.int z32)], [.int z32], (0, 0), hp28)) rfl rfl ?_
                refine bs_lit (k := 48) rfl rfl fun z417 hz417 => ?_
                refine bs_lt rfl (fun c418 => ?_) (fun c418 => ?_)
                · skip
                  refine bs_lit (k := 0) rfl rfl fun z419 hz419 => ?_
                  refine bs_zret rfl rfl (by omega) (by omega) ?_
                  rw [← hQ416]
                  refine (show Ev _ 106 ([some (.ref 69), some (.int z32), none, none], [.int z419], (0, 0), hp28) _ from ?_)
                  refine bs_ifne rfl (fun c420 => ?_) (fun c420 => ?_)
                  · exfalso; omega
                  · skip
                    refine Ev.step (j := 110) (s' := ([some (.ref 69), some (.int z32), none, none], [.ref 69], (0, 0), hp28)) rfl rfl ?_
                    refine Ev.step (j := 111) (s' := ([some (.ref 69), some (.int z32), none, none], [.int z32, .ref 69], (0, 0), hp28)) rfl rfl ?_
                    refine bs_lit (k := 59) rfl rfl fun z421 hz421 => ?_
                    refine bs_eq rfl (fun c422 => ?_) (fun c422 => ?_)
                    · skip
                      have c423 : z32.toInt = 59 := by omega
                      refine bs_lit (k := 3) rfl rfl fun z424 hz424 => ?_
                      refine Ev.step (j := 145) (s' := ([some (.ref 69), some (.int z32), none, none], [.int z424, .ref 69], (0, 0), hp28)) rfl rfl ?_
                      refine bs_putI (W := [(11, 11, 11), (999, 0, 0)]) (g := 11) rfl rfl Hhp28 (bs_R.uq Hhp28 (g := 11) rfl) (by decide) rfl rfl rfl rfl (Or.inl rfl) (by omega) (by omega) fun hp425 Hhp425 fhp425 rhp425 ehp425 qhp425 nhp425 => ?_
                      have Fhp425 := sf_fr_tr Fhp28 (sf_fr_wider (W := [(999, 0, 0), (11, 4, 4), (11, 11, 14), (11, 17, 17)]) rfl fhp425)
                      have h426 : sf_rd hp425 69 4 = some y31 := (ehp425 _ _ (Or.inr (by omega))).trans hy31
                      have h427 : sf_rd hp425 69 13 = some (0 : Int) := (ehp425 _ _ (Or.inr (by omega))).trans cy31
                      refine Ev.step (j := 149) (s' := ([some (.ref 69), some (.int z32), none, none], [.ref 69], (0, 0), hp425)) rfl rfl ?_
                      refine Ev.step (j := 150) (s' := ([some (.ref 69), some (.int z32), none, none], [.int z32, .ref 69], (0, 0), hp425)) rfl rfl ?_
                      refine bs_putI (W := [(11, 14, 14)]) (g := 11) rfl rfl Hhp425 (bs_R.uq Hhp425 (g := 11) rfl) (by decide) rfl rfl rfl rfl (Or.inl rfl) (by omega) (by omega) fun hp428 Hhp428 fhp428 rhp428 ehp428 qhp428 nhp428 => ?_
                      have Fhp428 := sf_fr_tr Fhp425 (sf_fr_wider (W := [(999, 0, 0), (11, 4, 4), (11, 11, 14), (11, 17, 17)]) rfl fhp428)
                      have h429 : sf_rd hp428 69 4 = some y31 := (ehp428 _ _ (Or.inr (by omega))).trans h426
                      have h430 : sf_rd hp428 69 13 = some (0 : Int) := (ehp428 _ _ (Or.inr (by omega))).trans h427
                      have h431 : sf_rd hp428 69 11 = some z424.toInt := (ehp428 _ _ (Or.inr (by omega))).trans rhp425
                      refine Ev.step (j := 154) (s' := ([some (.ref 69), some (.int z32), none, none], [.ref 69], (0, 0), hp428)) rfl rfl ?_
                      refine Ev.step (j := 155) (s' := ([some (.ref 69), some (.int z32), none, none], [.ref 69, .ref 69], (0, 0), hp428)) rfl rfl ?_
                      refine bs_getI 11 rfl rfl rfl Hhp428 (bs_R.uq Hhp428 (g := 11) rfl) (by decide) rfl fun z432 hz432 lz432 gz432 => ?_
                      have e433 : z432.toInt = y31 := Option.some.inj (hz432.symm.trans h429)
                      refine bs_lit (k := 1) rfl rfl fun z434 hz434 => ?_
                      first | (refine bs_add rfl (by omega) (by omega) fun z435 hz435 => ?_) | (refine bs_any rfl fun z435 => ?_)
                      have rz435 := n_range z435
                      refine bs_putI (W := [(11, 4, 4), (999, 0, 0)]) (g := 11) rfl rfl Hhp428 (bs_R.uq Hhp428 (g := 11) rfl) (by decide) rfl rfl rfl rfl (Or.inl rfl) (by omega) (by omega) fun hp436 Hhp436 fhp436 rhp436 ehp436 qhp436 nhp436 => ?_
                      have Fhp436 := sf_fr_tr Fhp428 (sf_fr_wider (W := [(999, 0, 0), (11, 4, 4), (11, 11, 14), (11, 17, 17)]) rfl fhp436)
                      have h437 : sf_rd hp436 69 13 = some (0 : Int) := (ehp436 _ _ (Or.inr (by omega))).trans h430
                      have h438 : sf_rd hp436 69 11 = some z424.toInt := (ehp436 _ _ (Or.inr (by omega))).trans h431
                      have h439 : sf_rd hp436 69 14 = some z32.toInt := (ehp436 _ _ (Or.inr (by omega))).trans rhp428
                      have A1 := psi_ge rhp436 h438
                      have A2 := psi_ge Q4 Q11
                      have PS : sf_psi hp436 ≤ sf_psi hp := by omega
                      exact Ev.ret rfl rfl (by rw [hQ]; exact ⟨t29, Hhp436, (fr_unmark H Fhp436 PS), bs_anU, sf_S_nil⟩)
                    · skip
                      refine Ev.step (j := 117) (s' := ([some (.ref 69), some (.int z32), none, none], [.int z32, .ref 69], (0, 0), hp28)) rfl rfl ?_
                      refine bs_lit (k := 40) rfl rfl fun z440 hz440 => ?_
                      refine bs_eq rfl (fun c441 => ?_) (fun c441 => ?_)
                      · skip
                        have c442 : z32.toInt = 40 := by omega
                        refine bs_lit (k := 3) rfl rfl fun z443 hz443 => ?_
                        refine Ev.step (j := 145) (s' := ([some (.ref 69), some (.int z32), none, none], [.int z443, .ref 69], (0, 0), hp28)) rfl rfl ?_
                        refine bs_putI (W := [(11, 11, 11), (999, 0, 0)]) (g := 11) rfl rfl Hhp28 (bs_R.uq Hhp28 (g := 11) rfl) (by decide) rfl rfl rfl rfl (Or.inl rfl) (by omega) (by omega) fun hp444 Hhp444 fhp444 rhp444 ehp444 qhp444 nhp444 => ?_
                        have Fhp444 := sf_fr_tr Fhp28 (sf_fr_wider (W := [(999, 0, 0), (11, 4, 4), (11, 11, 14), (11, 17, 17)]) rfl fhp444)
                        have h445 : sf_rd hp444 69 4 = some y31 := (ehp444 _ _ (Or.inr (by omega))).trans hy31
                        have h446 : sf_rd hp444 69 13 = some (0 : Int) := (ehp444 _ _ (Or.inr (by omega))).trans cy31
                        refine Ev.step (j := 149) (s' := ([some (.ref 69), some (.int z32), none, none], [.ref 69], (0, 0), hp444)) rfl rfl ?_
                        refine Ev.step (j := 150) (s' := ([some (.ref 69), some (.int z32), none, none], [.int z32, .ref 69], (0, 0), hp444)) rfl rfl ?_
                        refine bs_putI (W := [(11, 14, 14)]) (g := 11) rfl rfl Hhp444 (bs_R.uq Hhp444 (g := 11) rfl) (by decide) rfl rfl rfl rfl (Or.inl rfl) (by omega) (by omega) fun hp447 Hhp447 fhp447 rhp447 ehp447 qhp447 nhp447 => ?_
                        have Fhp447 := sf_fr_tr Fhp444 (sf_fr_wider (W := [(999, 0, 0), (11, 4, 4), (11, 11, 14), (11, 17, 17)]) rfl fhp447)
                        have h448 : sf_rd hp447 69 4 = some y31 := (ehp447 _ _ (Or.inr (by omega))).trans h445
                        have h449 : sf_rd hp447 69 13 = some (0 : Int) := (ehp447 _ _ (Or.inr (by omega))).trans h446
                        have h450 : sf_rd hp447 69 11 = some z443.toInt := (ehp447 _ _ (Or.inr (by omega))).trans rhp444
                        refine Ev.step (j := 154) (s' := ([some (.ref 69), some (.int z32), none, none], [.ref 69], (0, 0), hp447)) rfl rfl ?_
                        refine Ev.step (j := 155) (s' := ([some (.ref 69), some (.int z32), none, none], [.ref 69, .ref 69], (0, 0), hp447)) rfl rfl ?_
                        refine bs_getI 11 rfl rfl rfl Hhp447 (bs_R.uq Hhp447 (g := 11) rfl) (by decide) rfl fun z451 hz451 lz451 gz451 => ?_
                        have e452 : z451.toInt = y31 := Option.some.inj (hz451.symm.trans h448)
                        refine bs_lit (k := 1) rfl rfl fun z453 hz453 => ?_
                        first | (refine bs_add rfl (by omega) (by omega) fun z454 hz454 => ?_) | (refine bs_any rfl fun z454 => ?_)
                        have rz454 := n_range z454
                        refine bs_putI (W := [(11, 4, 4), (999, 0, 0)]) (g := 11) rfl rfl Hhp447 (bs_R.uq Hhp447 (g := 11) rfl) (by decide) rfl rfl rfl rfl (Or.inl rfl) (by omega) (by omega) fun hp455 Hhp455 fhp455 rhp455 ehp455 qhp455 nhp455 => ?_
                        have Fhp455 := sf_fr_tr Fhp447 (sf_fr_wider (W := [(999, 0, 0), (11, 4, 4), (11, 11, 14), (11, 17, 17)]) rfl fhp455)
                        have h456 : sf_rd hp455 69 13 = some (0 : Int) := (ehp455 _ _ (Or.inr (by omega))).trans h449
                        have h457 : sf_rd hp455 69 11 = some z443.toInt := (ehp455 _ _ (Or.inr (by omega))).trans h450
                        have h458 : sf_rd hp455 69 14 = some z32.toInt := (ehp455 _ _ (Or.inr (by omega))).trans rhp447
                        have A1 := psi_ge rhp455 h457
                        have A2 := psi_ge Q4 Q11
                        have PS : sf_psi hp455 ≤ sf_psi hp := by omega
                        exact Ev.ret rfl rfl (by rw [hQ]; exact ⟨t29, Hhp455, (fr_unmark H Fhp455 PS), bs_anU, sf_S_nil⟩)
                      · skip
                        refine Ev.step (j := 123) (s' := ([some (.ref 69), some (.int z32), none, none], [.int z32, .ref 69], (0, 0), hp28)) rfl rfl ?_
                        refine bs_lit (k := 41) rfl rfl fun z459 hz459 => ?_
                        refine bs_eq rfl (fun c460 => ?_) (fun c460 => ?_)
                        · skip
                          have c461 : z32.toInt = 41 := by omega
                          refine bs_lit (k := 3) rfl rfl fun z462 hz462 => ?_
                          refine Ev.step (j := 145) (s' := ([some (.ref 69), some (.int z32), none, none], [.int z462, .ref 69], (0, 0), hp28)) rfl rfl ?_
                          refine bs_putI (W := [(11, 11, 11), (999, 0, 0)]) (g := 11) rfl rfl Hhp28 (bs_R.uq Hhp28 (g := 11) rfl) (by decide) rfl rfl rfl rfl (Or.inl rfl) (by omega) (by omega) fun hp463 Hhp463 fhp463 rhp463 ehp463 qhp463 nhp463 => ?_
                          have Fhp463 := sf_fr_tr Fhp28 (sf_fr_wider (W := [(999, 0, 0), (11, 4, 4), (11, 11, 14), (11, 17, 17)]) rfl fhp463)
                          have h464 : sf_rd hp463 69 4 = some y31 := (ehp463 _ _ (Or.inr (by omega))).trans hy31
                          have h465 : sf_rd hp463 69 13 = some (0 : Int) := (ehp463 _ _ (Or.inr (by omega))).trans cy31
                          refine Ev.step (j := 149) (s' := ([some (.ref 69), some (.int z32), none, none], [.ref 69], (0, 0), hp463)) rfl rfl ?_
                          refine Ev.step (j := 150) (s' := ([some (.ref 69), some (.int z32), none, none], [.int z32, .ref 69], (0, 0), hp463)) rfl rfl ?_
                          refine bs_putI (W := [(11, 14, 14)]) (g := 11) rfl rfl Hhp463 (bs_R.uq Hhp463 (g := 11) rfl) (by decide) rfl rfl rfl rfl (Or.inl rfl) (by omega) (by omega) fun hp466 Hhp466 fhp466 rhp466 ehp466 qhp466 nhp466 => ?_
                          have Fhp466 := sf_fr_tr Fhp463 (sf_fr_wider (W := [(999, 0, 0), (11, 4, 4), (11, 11, 14), (11, 17, 17)]) rfl fhp466)
                          have h467 : sf_rd hp466 69 4 = some y31 := (ehp466 _ _ (Or.inr (by omega))).trans h464
                          have h468 : sf_rd hp466 69 13 = some (0 : Int) := (ehp466 _ _ (Or.inr (by omega))).trans h465
                          have h469 : sf_rd hp466 69 11 = some z462.toInt := (ehp466 _ _ (Or.inr (by omega))).trans rhp463
                          refine Ev.step (j := 154) (s' := ([some (.ref 69), some (.int z32), none, none], [.ref 69], (0, 0), hp466)) rfl rfl ?_
                          refine Ev.step (j := 155) (s' := ([some (.ref 69), some (.int z32), none, none], [.ref 69, .ref 69], (0, 0), hp466)) rfl rfl ?_
                          refine bs_getI 11 rfl rfl rfl Hhp466 (bs_R.uq Hhp466 (g := 11) rfl) (by decide) rfl fun z470 hz470 lz470 gz470 => ?_
                          have e471 : z470.toInt = y31 := Option.some.inj (hz470.symm.trans h467)
                          refine bs_lit (k := 1) rfl rfl fun z472 hz472 => ?_
                          first | (refine bs_add rfl (by omega) (by omega) fun z473 hz473 => ?_) | (refine bs_any rfl fun z473 => ?_)
                          have rz473 := n_range z473
                          refine bs_putI (W := [(11, 4, 4), (999, 0, 0)]) (g := 11) rfl rfl Hhp466 (bs_R.uq Hhp466 (g := 11) rfl) (by decide) rfl rfl rfl rfl (Or.inl rfl) (by omega) (by omega) fun hp474 Hhp474 fhp474 rhp474 ehp474 qhp474 nhp474 => ?_
                          have Fhp474 := sf_fr_tr Fhp466 (sf_fr_wider (W := [(999, 0, 0), (11, 4, 4), (11, 11, 14), (11, 17, 17)]) rfl fhp474)
                          have h475 : sf_rd hp474 69 13 = some (0 : Int) := (ehp474 _ _ (Or.inr (by omega))).trans h468
                          have h476 : sf_rd hp474 69 11 = some z462.toInt := (ehp474 _ _ (Or.inr (by omega))).trans h469
                          have h477 : sf_rd hp474 69 14 = some z32.toInt := (ehp474 _ _ (Or.inr (by omega))).trans rhp466
                          have A1 := psi_ge rhp474 h476
                          have A2 := psi_ge Q4 Q11
                          have PS : sf_psi hp474 ≤ sf_psi hp := by omega
                          exact Ev.ret rfl rfl (by rw [hQ]; exact ⟨t29, Hhp474, (fr_unmark H Fhp474 PS), bs_anU, sf_S_nil⟩)
                        · skip
                          refine Ev.step (j := 129) (s' := ([some (.ref 69), some (.int z32), none, none], [.int z32, .ref 69], (0, 0), hp28)) rfl rfl ?_
                          refine bs_lit (k := 60) rfl rfl fun z478 hz478 => ?_
                          refine bs_lt rfl (fun c479 => ?_) (fun c479 => ?_)
                          · skip
                            refine bs_lit (k := 4) rfl rfl fun z480 hz480 => ?_
                            refine bs_putI (W := [(11, 11, 11), (999, 0, 0)]) (g := 11) rfl rfl Hhp28 (bs_R.uq Hhp28 (g := 11) rfl) (by decide) rfl rfl rfl rfl (Or.inl rfl) (by omega) (by omega) fun hp481 Hhp481 fhp481 rhp481 ehp481 qhp481 nhp481 => ?_
                            have Fhp481 := sf_fr_tr Fhp28 (sf_fr_wider (W := [(999, 0, 0), (11, 4, 4), (11, 11, 14), (11, 17, 17)]) rfl fhp481)
                            have h482 : sf_rd hp481 69 4 = some y31 := (ehp481 _ _ (Or.inr (by omega))).trans hy31
                            have h483 : sf_rd hp481 69 13 = some (0 : Int) := (ehp481 _ _ (Or.inr (by omega))).trans cy31
                            refine Ev.step (j := 149) (s' := ([some (.ref 69), some (.int z32), none, none], [.ref 69], (0, 0), hp481)) rfl rfl ?_
                            refine Ev.step (j := 150) (s' := ([some (.ref 69), some (.int z32), none, none], [.int z32, .ref 69], (0, 0), hp481)) rfl rfl ?_
                            refine bs_putI (W := [(11, 14, 14)]) (g := 11) rfl rfl Hhp481 (bs_R.uq Hhp481 (g := 11) rfl) (by decide) rfl rfl rfl rfl (Or.inl rfl) (by omega) (by omega) fun hp484 Hhp484 fhp484 rhp484 ehp484 qhp484 nhp484 => ?_
                            have Fhp484 := sf_fr_tr Fhp481 (sf_fr_wider (W := [(999, 0, 0), (11, 4, 4), (11, 11, 14), (11, 17, 17)]) rfl fhp484)
                            have h485 : sf_rd hp484 69 4 = some y31 := (ehp484 _ _ (Or.inr (by omega))).trans h482
                            have h486 : sf_rd hp484 69 13 = some (0 : Int) := (ehp484 _ _ (Or.inr (by omega))).trans h483
                            have h487 : sf_rd hp484 69 11 = some z480.toInt := (ehp484 _ _ (Or.inr (by omega))).trans rhp481
                            refine Ev.step (j := 154) (s' := ([some (.ref 69), some (.int z32), none, none], [.ref 69], (0, 0), hp484)) rfl rfl ?_
                            refine Ev.step (j := 155) (s' := ([some (.ref 69), some (.int z32), none, none], [.ref 69, .ref 69], (0, 0), hp484)) rfl rfl ?_
                            refine bs_getI 11 rfl rfl rfl Hhp484 (bs_R.uq Hhp484 (g := 11) rfl) (by decide) rfl fun z488 hz488 lz488 gz488 => ?_
                            have e489 : z488.toInt = y31 := Option.some.inj (hz488.symm.trans h485)
                            refine bs_lit (k := 1) rfl rfl fun z490 hz490 => ?_
                            first | (refine bs_add rfl (by omega) (by omega) fun z491 hz491 => ?_) | (refine bs_any rfl fun z491 => ?_)
                            have rz491 := n_range z491
                            refine bs_putI (W := [(11, 4, 4), (999, 0, 0)]) (g := 11) rfl rfl Hhp484 (bs_R.uq Hhp484 (g := 11) rfl) (by decide) rfl rfl rfl rfl (Or.inl rfl) (by omega) (by omega) fun hp492 Hhp492 fhp492 rhp492 ehp492 qhp492 nhp492 => ?_
                            have Fhp492 := sf_fr_tr Fhp484 (sf_fr_wider (W := [(999, 0, 0), (11, 4, 4), (11, 11, 14), (11, 17, 17)]) rfl fhp492)
                            have h493 : sf_rd hp492 69 13 = some (0 : Int) := (ehp492 _ _ (Or.inr (by omega))).trans h486
                            have h494 : sf_rd hp492 69 11 = some z480.toInt := (ehp492 _ _ (Or.inr (by omega))).trans h487
                            have h495 : sf_rd hp492 69 14 = some z32.toInt := (ehp492 _ _ (Or.inr (by omega))).trans rhp484
                            have A1 := psi_ge rhp492 h494
                            have A2 := psi_ge Q4 Q11
                            have PS : sf_psi hp492 ≤ sf_psi hp := by omega
                            exact Ev.ret rfl rfl (by rw [hQ]; exact ⟨t29, Hhp492, (fr_unmark H Fhp492 PS), bs_anU, sf_S_nil⟩)
                          · skip
                            refine Ev.step (j := 135) (s' := ([some (.ref 69), some (.int z32), none, none], [.int z32, .ref 69], (0, 0), hp28)) rfl rfl ?_
                            refine bs_lit (k := 62) rfl rfl fun z496 hz496 => ?_
                            refine bs_gt rfl (fun c497 => ?_) (fun c497 => ?_)
                            · skip
                              refine bs_lit (k := 4) rfl rfl fun z498 hz498 => ?_
                              refine bs_putI (W := [(11, 11, 11), (999, 0, 0)]) (g := 11) rfl rfl Hhp28 (bs_R.uq Hhp28 (g := 11) rfl) (by decide) rfl rfl rfl rfl (Or.inl rfl) (by omega) (by omega) fun hp499 Hhp499 fhp499 rhp499 ehp499 qhp499 nhp499 => ?_
                              have Fhp499 := sf_fr_tr Fhp28 (sf_fr_wider (W := [(999, 0, 0), (11, 4, 4), (11, 11, 14), (11, 17, 17)]) rfl fhp499)
                              have h500 : sf_rd hp499 69 4 = some y31 := (ehp499 _ _ (Or.inr (by omega))).trans hy31
                              have h501 : sf_rd hp499 69 13 = some (0 : Int) := (ehp499 _ _ (Or.inr (by omega))).trans cy31
                              refine Ev.step (j := 149) (s' := ([some (.ref 69), some (.int z32), none, none], [.ref 69], (0, 0), hp499)) rfl rfl ?_
                              refine Ev.step (j := 150) (s' := ([some (.ref 69), some (.int z32), none, none], [.int z32, .ref 69], (0, 0), hp499)) rfl rfl ?_
                              refine bs_putI (W := [(11, 14, 14)]) (g := 11) rfl rfl Hhp499 (bs_R.uq Hhp499 (g := 11) rfl) (by decide) rfl rfl rfl rfl (Or.inl rfl) (by omega) (by omega) fun hp502 Hhp502 fhp502 rhp502 ehp502 qhp502 nhp502 => ?_
                              have Fhp502 := sf_fr_tr Fhp499 (sf_fr_wider (W := [(999, 0, 0), (11, 4, 4), (11, 11, 14), (11, 17, 17)]) rfl fhp502)
                              have h503 : sf_rd hp502 69 4 = some y31 := (ehp502 _ _ (Or.inr (by omega))).trans h500
                              have h504 : sf_rd hp502 69 13 = some (0 : Int) := (ehp502 _ _ (Or.inr (by omega))).trans h501
                              have h505 : sf_rd hp502 69 11 = some z498.toInt := (ehp502 _ _ (Or.inr (by omega))).trans rhp499
                              refine Ev.step (j := 154) (s' := ([some (.ref 69), some (.int z32), none, none], [.ref 69], (0, 0), hp502)) rfl rfl ?_
                              refine Ev.step (j := 155) (s' := ([some (.ref 69), some (.int z32), none, none], [.ref 69, .ref 69], (0, 0), hp502)) rfl rfl ?_
                              refine bs_getI 11 rfl rfl rfl Hhp502 (bs_R.uq Hhp502 (g := 11) rfl) (by decide) rfl fun z506 hz506 lz506 gz506 => ?_
                              have e507 : z506.toInt = y31 := Option.some.inj (hz506.symm.trans h503)
                              refine bs_lit (k := 1) rfl rfl fun z508 hz508 => ?_
                              first | (refine bs_add rfl (by omega) (by omega) fun z509 hz509 => ?_) | (refine bs_any rfl fun z509 => ?_)
                              have rz509 := n_range z509
                              refine bs_putI (W := [(11, 4, 4), (999, 0, 0)]) (g := 11) rfl rfl Hhp502 (bs_R.uq Hhp502 (g := 11) rfl) (by decide) rfl rfl rfl rfl (Or.inl rfl) (by omega) (by omega) fun hp510 Hhp510 fhp510 rhp510 ehp510 qhp510 nhp510 => ?_
                              have Fhp510 := sf_fr_tr Fhp502 (sf_fr_wider (W := [(999, 0, 0), (11, 4, 4), (11, 11, 14), (11, 17, 17)]) rfl fhp510)
                              have h511 : sf_rd hp510 69 13 = some (0 : Int) := (ehp510 _ _ (Or.inr (by omega))).trans h504
                              have h512 : sf_rd hp510 69 11 = some z498.toInt := (ehp510 _ _ (Or.inr (by omega))).trans h505
                              have h513 : sf_rd hp510 69 14 = some z32.toInt := (ehp510 _ _ (Or.inr (by omega))).trans rhp502
                              have A1 := psi_ge rhp510 h512
                              have A2 := psi_ge Q4 Q11
                              have PS : sf_psi hp510 ≤ sf_psi hp := by omega
                              exact Ev.ret rfl rfl (by rw [hQ]; exact ⟨t29, Hhp510, (fr_unmark H Fhp510 PS), bs_anU, sf_S_nil⟩)
                            · skip
                              refine bs_lit (k := 3) rfl rfl fun z514 hz514 => ?_
                              refine Ev.step (j := 145) (s' := ([some (.ref 69), some (.int z32), none, none], [.int z514, .ref 69], (0, 0), hp28)) rfl rfl ?_
                              refine bs_putI (W := [(11, 11, 11), (999, 0, 0)]) (g := 11) rfl rfl Hhp28 (bs_R.uq Hhp28 (g := 11) rfl) (by decide) rfl rfl rfl rfl (Or.inl rfl) (by omega) (by omega) fun hp515 Hhp515 fhp515 rhp515 ehp515 qhp515 nhp515 => ?_
                              have Fhp515 := sf_fr_tr Fhp28 (sf_fr_wider (W := [(999, 0, 0), (11, 4, 4), (11, 11, 14), (11, 17, 17)]) rfl fhp515)
                              have h516 : sf_rd hp515 69 4 = some y31 := (ehp515 _ _ (Or.inr (by omega))).trans hy31
                              have h517 : sf_rd hp515 69 13 = some (0 : Int) := (ehp515 _ _ (Or.inr (by omega))).trans cy31
                              refine Ev.step (j := 149) (s' := ([some (.ref 69), some (.int z32), none, none], [.ref 69], (0, 0), hp515)) rfl rfl ?_
                              refine Ev.step (j := 150) (s' := ([some (.ref 69), some (.int z32), none, none], [.int z32, .ref 69], (0, 0), hp515)) rfl rfl ?_
                              refine bs_putI (W := [(11, 14, 14)]) (g := 11) rfl rfl Hhp515 (bs_R.uq Hhp515 (g := 11) rfl) (by decide) rfl rfl rfl rfl (Or.inl rfl) (by omega) (by omega) fun hp518 Hhp518 fhp518 rhp518 ehp518 qhp518 nhp518 => ?_
                              have Fhp518 := sf_fr_tr Fhp515 (sf_fr_wider (W := [(999, 0, 0), (11, 4, 4), (11, 11, 14), (11, 17, 17)]) rfl fhp518)
                              have h519 : sf_rd hp518 69 4 = some y31 := (ehp518 _ _ (Or.inr (by omega))).trans h516
                              have h520 : sf_rd hp518 69 13 = some (0 : Int) := (ehp518 _ _ (Or.inr (by omega))).trans h517
                              have h521 : sf_rd hp518 69 11 = some z514.toInt := (ehp518 _ _ (Or.inr (by omega))).trans rhp515
                              refine Ev.step (j := 154) (s' := ([some (.ref 69), some (.int z32), none, none], [.ref 69], (0, 0), hp518)) rfl rfl ?_
                              refine Ev.step (j := 155) (s' := ([some (.ref 69), some (.int z32), none, none], [.ref 69, .ref 69], (0, 0), hp518)) rfl rfl ?_
                              refine bs_getI 11 rfl rfl rfl Hhp518 (bs_R.uq Hhp518 (g := 11) rfl) (by decide) rfl fun z522 hz522 lz522 gz522 => ?_
                              have e523 : z522.toInt = y31 := Option.some.inj (hz522.symm.trans h519)
                              refine bs_lit (k := 1) rfl rfl fun z524 hz524 => ?_
                              first | (refine bs_add rfl (by omega) (by omega) fun z525 hz525 => ?_) | (refine bs_any rfl fun z525 => ?_)
                              have rz525 := n_range z525
                              refine bs_putI (W := [(11, 4, 4), (999, 0, 0)]) (g := 11) rfl rfl Hhp518 (bs_R.uq Hhp518 (g := 11) rfl) (by decide) rfl rfl rfl rfl (Or.inl rfl) (by omega) (by omega) fun hp526 Hhp526 fhp526 rhp526 ehp526 qhp526 nhp526 => ?_
                              have Fhp526 := sf_fr_tr Fhp518 (sf_fr_wider (W := [(999, 0, 0), (11, 4, 4), (11, 11, 14), (11, 17, 17)]) rfl fhp526)
                              have h527 : sf_rd hp526 69 13 = some (0 : Int) := (ehp526 _ _ (Or.inr (by omega))).trans h520
                              have h528 : sf_rd hp526 69 11 = some z514.toInt := (ehp526 _ _ (Or.inr (by omega))).trans h521
                              have h529 : sf_rd hp526 69 14 = some z32.toInt := (ehp526 _ _ (Or.inr (by omega))).trans rhp518
                              have A1 := psi_ge rhp526 h528
                              have A2 := psi_ge Q4 Q11
                              have PS : sf_psi hp526 ≤ sf_psi hp := by omega
                              exact Ev.ret rfl rfl (by rw [hQ]; exact ⟨t29, Hhp526, (fr_unmark H Fhp526 PS), bs_anU, sf_S_nil⟩)
                · skip
                  refine Ev.step (j := 7) (s' := ([some (.int z32)], [.int z32], (0, 0), hp28)) rfl rfl ?_
                  refine bs_lit (k := 57) rfl rfl fun z530 hz530 => ?_
                  refine bs_gt rfl (fun c531 => ?_) (fun c531 => ?_)
                  · skip
                    refine bs_lit (k := 0) rfl rfl fun z532 hz532 => ?_
                    refine bs_zret rfl rfl (by omega) (by omega) ?_
                    rw [← hQ416]
                    refine (show Ev _ 106 ([some (.ref 69), some (.int z32), none, none], [.int z532], (0, 0), hp28) _ from ?_)
                    refine bs_ifne rfl (fun c533 => ?_) (fun c533 => ?_)
                    · exfalso; omega
                    · skip
                      refine Ev.step (j := 110) (s' := ([some (.ref 69), some (.int z32), none, none], [.ref 69], (0, 0), hp28)) rfl rfl ?_
                      refine Ev.step (j := 111) (s' := ([some (.ref 69), some (.int z32), none, none], [.int z32, .ref 69], (0, 0), hp28)) rfl rfl ?_
                      refine bs_lit (k := 59) rfl rfl fun z534 hz534 => ?_
                      refine bs_eq rfl (fun c535 => ?_) (fun c535 => ?_)
                      · skip
                        have c536 : z32.toInt = 59 := by omega
                        refine bs_lit (k := 3) rfl rfl fun z537 hz537 => ?_
                        refine Ev.step (j := 145) (s' := ([some (.ref 69), some (.int z32), none, none], [.int z537, .ref 69], (0, 0), hp28)) rfl rfl ?_
                        refine bs_putI (W := [(11, 11, 11), (999, 0, 0)]) (g := 11) rfl rfl Hhp28 (bs_R.uq Hhp28 (g := 11) rfl) (by decide) rfl rfl rfl rfl (Or.inl rfl) (by omega) (by omega) fun hp538 Hhp538 fhp538 rhp538 ehp538 qhp538 nhp538 => ?_
                        have Fhp538 := sf_fr_tr Fhp28 (sf_fr_wider (W := [(999, 0, 0), (11, 4, 4), (11, 11, 14), (11, 17, 17)]) rfl fhp538)
                        have h539 : sf_rd hp538 69 4 = some y31 := (ehp538 _ _ (Or.inr (by omega))).trans hy31
                        have h540 : sf_rd hp538 69 13 = some (0 : Int) := (ehp538 _ _ (Or.inr (by omega))).trans cy31
                        refine Ev.step (j := 149) (s' := ([some (.ref 69), some (.int z32), none, none], [.ref 69], (0, 0), hp538)) rfl rfl ?_
                        refine Ev.step (j := 150) (s' := ([some (.ref 69), some (.int z32), none, none], [.int z32, .ref 69], (0, 0), hp538)) rfl rfl ?_
                        refine bs_putI (W := [(11, 14, 14)]) (g := 11) rfl rfl Hhp538 (bs_R.uq Hhp538 (g := 11) rfl) (by decide) rfl rfl rfl rfl (Or.inl rfl) (by omega) (by omega) fun hp541 Hhp541 fhp541 rhp541 ehp541 qhp541 nhp541 => ?_
                        have Fhp541 := sf_fr_tr Fhp538 (sf_fr_wider (W := [(999, 0, 0), (11, 4, 4), (11, 11, 14), (11, 17, 17)]) rfl fhp541)
                        have h542 : sf_rd hp541 69 4 = some y31 := (ehp541 _ _ (Or.inr (by omega))).trans h539
                        have h543 : sf_rd hp541 69 13 = some (0 : Int) := (ehp541 _ _ (Or.inr (by omega))).trans h540
                        have h544 : sf_rd hp541 69 11 = some z537.toInt := (ehp541 _ _ (Or.inr (by omega))).trans rhp538
                        refine Ev.step (j := 154) (s' := ([some (.ref 69), some (.int z32), none, none], [.ref 69], (0, 0), hp541)) rfl rfl ?_
                        refine Ev.step (j := 155) (s' := ([some (.ref 69), some (.int z32), none, none], [.ref 69, .ref 69], (0, 0), hp541)) rfl rfl ?_
                        refine bs_getI 11 rfl rfl rfl Hhp541 (bs_R.uq Hhp541 (g := 11) rfl) (by decide) rfl fun z545 hz545 lz545 gz545 => ?_
                        have e546 : z545.toInt = y31 := Option.some.inj (hz545.symm.trans h542)
                        refine bs_lit (k := 1) rfl rfl fun z547 hz547 => ?_
                        first | (refine bs_add rfl (by omega) (by omega) fun z548 hz548 => ?_) | (refine bs_any rfl fun z548 => ?_)
                        have rz548 := n_range z548
                        refine bs_putI (W := [(11, 4, 4), (999, 0, 0)]) (g := 11) rfl rfl Hhp541 (bs_R.uq Hhp541 (g := 11) rfl) (by decide) rfl rfl rfl rfl (Or.inl rfl) (by omega) (by omega) fun hp549 Hhp549 fhp549 rhp549 ehp549 qhp549 nhp549 => ?_
                        have Fhp549 := sf_fr_tr Fhp541 (sf_fr_wider (W := [(999, 0, 0), (11, 4, 4), (11, 11, 14), (11, 17, 17)]) rfl fhp549)
                        have h550 : sf_rd hp549 69 13 = some (0 : Int) := (ehp549 _ _ (Or.inr (by omega))).trans h543
                        have h551 : sf_rd hp549 69 11 = some z537.toInt := (ehp549 _ _ (Or.inr (by omega))).trans h544
                        have h552 : sf_rd hp549 69 14 = some z32.toInt := (ehp549 _ _ (Or.inr (by omega))).trans rhp541
                        have A1 := psi_ge rhp549 h551
                        have A2 := psi_ge Q4 Q11
                        have PS : sf_psi hp549 ≤ sf_psi hp := by omega
                        exact Ev.ret rfl rfl (by rw [hQ]; exact ⟨t29, Hhp549, (fr_unmark H Fhp549 PS), bs_anU, sf_S_nil⟩)
                      · skip
                        refine Ev.step (j := 117) (s' := ([some (.ref 69), some (.int z32), none, none], [.int z32, .ref 69], (0, 0), hp28)) rfl rfl ?_
                        refine bs_lit (k := 40) rfl rfl fun z553 hz553 => ?_
                        refine bs_eq rfl (fun c554 => ?_) (fun c554 => ?_)
                        · skip
                          have c555 : z32.toInt = 40 := by omega
                          refine bs_lit (k := 3) rfl rfl fun z556 hz556 => ?_
                          refine Ev.step (j := 145) (s' := ([some (.ref 69), some (.int z32), none, none], [.int z556, .ref 69], (0, 0), hp28)) rfl rfl ?_
                          refine bs_putI (W := [(11, 11, 11), (999, 0, 0)]) (g := 11) rfl rfl Hhp28 (bs_R.uq Hhp28 (g := 11) rfl) (by decide) rfl rfl rfl rfl (Or.inl rfl) (by omega) (by omega) fun hp557 Hhp557 fhp557 rhp557 ehp557 qhp557 nhp557 => ?_
                          have Fhp557 := sf_fr_tr Fhp28 (sf_fr_wider (W := [(999, 0, 0), (11, 4, 4), (11, 11, 14), (11, 17, 17)]) rfl fhp557)
                          have h558 : sf_rd hp557 69 4 = some y31 := (ehp557 _ _ (Or.inr (by omega))).trans hy31
                          have h559 : sf_rd hp557 69 13 = some (0 : Int) := (ehp557 _ _ (Or.inr (by omega))).trans cy31
                          refine Ev.step (j := 149) (s' := ([some (.ref 69), some (.int z32), none, none], [.ref 69], (0, 0), hp557)) rfl rfl ?_
                          refine Ev.step (j := 150) (s' := ([some (.ref 69), some (.int z32), none, none], [.int z32, .ref 69], (0, 0), hp557)) rfl rfl ?_
                          refine bs_putI (W := [(11, 14, 14)]) (g := 11) rfl rfl Hhp557 (bs_R.uq Hhp557 (g := 11) rfl) (by decide) rfl rfl rfl rfl (Or.inl rfl) (by omega) (by omega) fun hp560 Hhp560 fhp560 rhp560 ehp560 qhp560 nhp560 => ?_
                          have Fhp560 := sf_fr_tr Fhp557 (sf_fr_wider (W := [(999, 0, 0), (11, 4, 4), (11, 11, 14), (11, 17, 17)]) rfl fhp560)
                          have h561 : sf_rd hp560 69 4 = some y31 := (ehp560 _ _ (Or.inr (by omega))).trans h558
                          have h562 : sf_rd hp560 69 13 = some (0 : Int) := (ehp560 _ _ (Or.inr (by omega))).trans h559
                          have h563 : sf_rd hp560 69 11 = some z556.toInt := (ehp560 _ _ (Or.inr (by omega))).trans rhp557
                          refine Ev.step (j := 154) (s' := ([some (.ref 69), some (.int z32), none, none], [.ref 69], (0, 0), hp560)) rfl rfl ?_
                          refine Ev.step (j := 155) (s' := ([some (.ref 69), some (.int z32), none, none], [.ref 69, .ref 69], (0, 0), hp560)) rfl rfl ?_
                          refine bs_getI 11 rfl rfl rfl Hhp560 (bs_R.uq Hhp560 (g := 11) rfl) (by decide) rfl fun z564 hz564 lz564 gz564 => ?_
                          have e565 : z564.toInt = y31 := Option.some.inj (hz564.symm.trans h561)
                          refine bs_lit (k := 1) rfl rfl fun z566 hz566 => ?_
                          first | (refine bs_add rfl (by omega) (by omega) fun z567 hz567 => ?_) | (refine bs_any rfl fun z567 => ?_)
                          have rz567 := n_range z567
                          refine bs_putI (W := [(11, 4, 4), (999, 0, 0)]) (g := 11) rfl rfl Hhp560 (bs_R.uq Hhp560 (g := 11) rfl) (by decide) rfl rfl rfl rfl (Or.inl rfl) (by omega) (by omega) fun hp568 Hhp568 fhp568 rhp568 ehp568 qhp568 nhp568 => ?_
                          have Fhp568 := sf_fr_tr Fhp560 (sf_fr_wider (W := [(999, 0, 0), (11, 4, 4), (11, 11, 14), (11, 17, 17)]) rfl fhp568)
                          have h569 : sf_rd hp568 69 13 = some (0 : Int) := (ehp568 _ _ (Or.inr (by omega))).trans h562
                          have h570 : sf_rd hp568 69 11 = some z556.toInt := (ehp568 _ _ (Or.inr (by omega))).trans h563
                          have h571 : sf_rd hp568 69 14 = some z32.toInt := (ehp568 _ _ (Or.inr (by omega))).trans rhp560
                          have A1 := psi_ge rhp568 h570
                          have A2 := psi_ge Q4 Q11
                          have PS : sf_psi hp568 ≤ sf_psi hp := by omega
                          exact Ev.ret rfl rfl (by rw [hQ]; exact ⟨t29, Hhp568, (fr_unmark H Fhp568 PS), bs_anU, sf_S_nil⟩)
                        · skip
                          refine Ev.step (j := 123) (s' := ([some (.ref 69), some (.int z32), none, none], [.int z32, .ref 69], (0, 0), hp28)) rfl rfl ?_
                          refine bs_lit (k := 41) rfl rfl fun z572 hz572 => ?_
                          refine bs_eq rfl (fun c573 => ?_) (fun c573 => ?_)
                          · skip
                            have c574 : z32.toInt = 41 := by omega
                            refine bs_lit (k := 3) rfl rfl fun z575 hz575 => ?_
                            refine Ev.step (j := 145) (s' := ([some (.ref 69), some (.int z32), none, none], [.int z575, .ref 69], (0, 0), hp28)) rfl rfl ?_
                            refine bs_putI (W := [(11, 11, 11), (999, 0, 0)]) (g := 11) rfl rfl Hhp28 (bs_R.uq Hhp28 (g := 11) rfl) (by decide) rfl rfl rfl rfl (Or.inl rfl) (by omega) (by omega) fun hp576 Hhp576 fhp576 rhp576 ehp576 qhp576 nhp576 => ?_
                            have Fhp576 := sf_fr_tr Fhp28 (sf_fr_wider (W := [(999, 0, 0), (11, 4, 4), (11, 11, 14), (11, 17, 17)]) rfl fhp576)
                            have h577 : sf_rd hp576 69 4 = some y31 := (ehp576 _ _ (Or.inr (by omega))).trans hy31
                            have h578 : sf_rd hp576 69 13 = some (0 : Int) := (ehp576 _ _ (Or.inr (by omega))).trans cy31
                            refine Ev.step (j := 149) (s' := ([some (.ref 69), some (.int z32), none, none], [.ref 69], (0, 0), hp576)) rfl rfl ?_
                            refine Ev.step (j := 150) (s' := ([some (.ref 69), some (.int z32), none, none], [.int z32, .ref 69], (0, 0), hp576)) rfl rfl ?_
                            refine bs_putI (W := [(11, 14, 14)]) (g := 11) rfl rfl Hhp576 (bs_R.uq Hhp576 (g := 11) rfl) (by decide) rfl rfl rfl rfl (Or.inl rfl) (by omega) (by omega) fun hp579 Hhp579 fhp579 rhp579 ehp579 qhp579 nhp579 => ?_
                            have Fhp579 := sf_fr_tr Fhp576 (sf_fr_wider (W := [(999, 0, 0), (11, 4, 4), (11, 11, 14), (11, 17, 17)]) rfl fhp579)
                            have h580 : sf_rd hp579 69 4 = some y31 := (ehp579 _ _ (Or.inr (by omega))).trans h577
                            have h581 : sf_rd hp579 69 13 = some (0 : Int) := (ehp579 _ _ (Or.inr (by omega))).trans h578
                            have h582 : sf_rd hp579 69 11 = some z575.toInt := (ehp579 _ _ (Or.inr (by omega))).trans rhp576
                            refine Ev.step (j := 154) (s' := ([some (.ref 69), some (.int z32), none, none], [.ref 69], (0, 0), hp579)) rfl rfl ?_
                            refine Ev.step (j := 155) (s' := ([some (.ref 69), some (.int z32), none, none], [.ref 69, .ref 69], (0, 0), hp579)) rfl rfl ?_
                            refine bs_getI 11 rfl rfl rfl Hhp579 (bs_R.uq Hhp579 (g := 11) rfl) (by decide) rfl fun z583 hz583 lz583 gz583 => ?_
                            have e584 : z583.toInt = y31 := Option.some.inj (hz583.symm.trans h580)
                            refine bs_lit (k := 1) rfl rfl fun z585 hz585 => ?_
                            first | (refine bs_add rfl (by omega) (by omega) fun z586 hz586 => ?_) | (refine bs_any rfl fun z586 => ?_)
                            have rz586 := n_range z586
                            refine bs_putI (W := [(11, 4, 4), (999, 0, 0)]) (g := 11) rfl rfl Hhp579 (bs_R.uq Hhp579 (g := 11) rfl) (by decide) rfl rfl rfl rfl (Or.inl rfl) (by omega) (by omega) fun hp587 Hhp587 fhp587 rhp587 ehp587 qhp587 nhp587 => ?_
                            have Fhp587 := sf_fr_tr Fhp579 (sf_fr_wider (W := [(999, 0, 0), (11, 4, 4), (11, 11, 14), (11, 17, 17)]) rfl fhp587)
                            have h588 : sf_rd hp587 69 13 = some (0 : Int) := (ehp587 _ _ (Or.inr (by omega))).trans h581
                            have h589 : sf_rd hp587 69 11 = some z575.toInt := (ehp587 _ _ (Or.inr (by omega))).trans h582
                            have h590 : sf_rd hp587 69 14 = some z32.toInt := (ehp587 _ _ (Or.inr (by omega))).trans rhp579
                            have A1 := psi_ge rhp587 h589
                            have A2 := psi_ge Q4 Q11
                            have PS : sf_psi hp587 ≤ sf_psi hp := by omega
                            exact Ev.ret rfl rfl (by rw [hQ]; exact ⟨t29, Hhp587, (fr_unmark H Fhp587 PS), bs_anU, sf_S_nil⟩)
                          · skip
                            refine Ev.step (j := 129) (s' := ([some (.ref 69), some (.int z32), none, none], [.int z32, .ref 69], (0, 0), hp28)) rfl rfl ?_
                            refine bs_lit (k := 60) rfl rfl fun z591 hz591 => ?_
                            refine bs_lt rfl (fun c592 => ?_) (fun c592 => ?_)
                            · skip
                              refine bs_lit (k := 4) rfl rfl fun z593 hz593 => ?_
                              refine bs_putI (W := [(11, 11, 11), (999, 0, 0)]) (g := 11) rfl rfl Hhp28 (bs_R.uq Hhp28 (g := 11) rfl) (by decide) rfl rfl rfl rfl (Or.inl rfl) (by omega) (by omega) fun hp594 Hhp594 fhp594 rhp594 ehp594 qhp594 nhp594 => ?_
                              have Fhp594 := sf_fr_tr Fhp28 (sf_fr_wider (W := [(999, 0, 0), (11, 4, 4), (11, 11, 14), (11, 17, 17)]) rfl fhp594)
                              have h595 : sf_rd hp594 69 4 = some y31 := (ehp594 _ _ (Or.inr (by omega))).trans hy31
                              have h596 : sf_rd hp594 69 13 = some (0 : Int) := (ehp594 _ _ (Or.inr (by omega))).trans cy31
                              refine Ev.step (j := 149) (s' := ([some (.ref 69), some (.int z32), none, none], [.ref 69], (0, 0), hp594)) rfl rfl ?_
                              refine Ev.step (j := 150) (s' := ([some (.ref 69), some (.int z32), none, none], [.int z32, .ref 69], (0, 0), hp594)) rfl rfl ?_
                              refine bs_putI (W := [(11, 14, 14)]) (g := 11) rfl rfl Hhp594 (bs_R.uq Hhp594 (g := 11) rfl) (by decide) rfl rfl rfl rfl (Or.inl rfl) (by omega) (by omega) fun hp597 Hhp597 fhp597 rhp597 ehp597 qhp597 nhp597 => ?_
                              have Fhp597 := sf_fr_tr Fhp594 (sf_fr_wider (W := [(999, 0, 0), (11, 4, 4), (11, 11, 14), (11, 17, 17)]) rfl fhp597)
                              have h598 : sf_rd hp597 69 4 = some y31 := (ehp597 _ _ (Or.inr (by omega))).trans h595
                              have h599 : sf_rd hp597 69 13 = some (0 : Int) := (ehp597 _ _ (Or.inr (by omega))).trans h596
                              have h600 : sf_rd hp597 69 11 = some z593.toInt := (ehp597 _ _ (Or.inr (by omega))).trans rhp594
                              refine Ev.step (j := 154) (s' := ([some (.ref 69), some (.int z32), none, none], [.ref 69], (0, 0), hp597)) rfl rfl ?_
                              refine Ev.step (j := 155) (s' := ([some (.ref 69), some (.int z32), none, none], [.ref 69, .ref 69], (0, 0), hp597)) rfl rfl ?_
                              refine bs_getI 11 rfl rfl rfl Hhp597 (bs_R.uq Hhp597 (g := 11) rfl) (by decide) rfl fun z601 hz601 lz601 gz601 => ?_
                              have e602 : z601.toInt = y31 := Option.some.inj (hz601.symm.trans h598)
                              refine bs_lit (k := 1) rfl rfl fun z603 hz603 => ?_
                              first | (refine bs_add rfl (by omega) (by omega) fun z604 hz604 => ?_) | (refine bs_any rfl fun z604 => ?_)
                              have rz604 := n_range z604
                              refine bs_putI (W := [(11, 4, 4), (999, 0, 0)]) (g := 11) rfl rfl Hhp597 (bs_R.uq Hhp597 (g := 11) rfl) (by decide) rfl rfl rfl rfl (Or.inl rfl) (by omega) (by omega) fun hp605 Hhp605 fhp605 rhp605 ehp605 qhp605 nhp605 => ?_
                              have Fhp605 := sf_fr_tr Fhp597 (sf_fr_wider (W := [(999, 0, 0), (11, 4, 4), (11, 11, 14), (11, 17, 17)]) rfl fhp605)
                              have h606 : sf_rd hp605 69 13 = some (0 : Int) := (ehp605 _ _ (Or.inr (by omega))).trans h599
                              have h607 : sf_rd hp605 69 11 = some z593.toInt := (ehp605 _ _ (Or.inr (by omega))).trans h600
                              have h608 : sf_rd hp605 69 14 = some z32.toInt := (ehp605 _ _ (Or.inr (by omega))).trans rhp597
                              have A1 := psi_ge rhp605 h607
                              have A2 := psi_ge Q4 Q11
                              have PS : sf_psi hp605 ≤ sf_psi hp := by omega
                              exact Ev.ret rfl rfl (by rw [hQ]; exact ⟨t29, Hhp605, (fr_unmark H Fhp605 PS), bs_anU, sf_S_nil⟩)
                            · skip
                              refine Ev.step (j := 135) (s' := ([some (.ref 69), some (.int z32), none, none], [.int z32, .ref 69], (0, 0), hp28)) rfl rfl ?_
                              refine bs_lit (k := 62) rfl rfl fun z609 hz609 => ?_
                              refine bs_gt rfl (fun c610 => ?_) (fun c610 => ?_)
                              · skip
                                refine bs_lit (k := 4) rfl rfl fun z611 hz611 => ?_
                                refine bs_putI (W := [(11, 11, 11), (999, 0, 0)]) (g := 11) rfl rfl Hhp28 (bs_R.uq Hhp28 (g := 11) rfl) (by decide) rfl rfl rfl rfl (Or.inl rfl) (by omega) (by omega) fun hp612 Hhp612 fhp612 rhp612 ehp612 qhp612 nhp612 => ?_
                                have Fhp612 := sf_fr_tr Fhp28 (sf_fr_wider (W := [(999, 0, 0), (11, 4, 4), (11, 11, 14), (11, 17, 17)]) rfl fhp612)
                                have h613 : sf_rd hp612 69 4 = some y31 := (ehp612 _ _ (Or.inr (by omega))).trans hy31
                                have h614 : sf_rd hp612 69 13 = some (0 : Int) := (ehp612 _ _ (Or.inr (by omega))).trans cy31
                                refine Ev.step (j := 149) (s' := ([some (.ref 69), some (.int z32), none, none], [.ref 69], (0, 0), hp612)) rfl rfl ?_
                                refine Ev.step (j := 150) (s' := ([some (.ref 69), some (.int z32), none, none], [.int z32, .ref 69], (0, 0), hp612)) rfl rfl ?_
                                refine bs_putI (W := [(11, 14, 14)]) (g := 11) rfl rfl Hhp612 (bs_R.uq Hhp612 (g := 11) rfl) (by decide) rfl rfl rfl rfl (Or.inl rfl) (by omega) (by omega) fun hp615 Hhp615 fhp615 rhp615 ehp615 qhp615 nhp615 => ?_
                                have Fhp615 := sf_fr_tr Fhp612 (sf_fr_wider (W := [(999, 0, 0), (11, 4, 4), (11, 11, 14), (11, 17, 17)]) rfl fhp615)
                                have h616 : sf_rd hp615 69 4 = some y31 := (ehp615 _ _ (Or.inr (by omega))).trans h613
                                have h617 : sf_rd hp615 69 13 = some (0 : Int) := (ehp615 _ _ (Or.inr (by omega))).trans h614
                                have h618 : sf_rd hp615 69 11 = some z611.toInt := (ehp615 _ _ (Or.inr (by omega))).trans rhp612
                                refine Ev.step (j := 154) (s' := ([some (.ref 69), some (.int z32), none, none], [.ref 69], (0, 0), hp615)) rfl rfl ?_
                                refine Ev.step (j := 155) (s' := ([some (.ref 69), some (.int z32), none, none], [.ref 69, .ref 69], (0, 0), hp615)) rfl rfl ?_
                                refine bs_getI 11 rfl rfl rfl Hhp615 (bs_R.uq Hhp615 (g := 11) rfl) (by decide) rfl fun z619 hz619 lz619 gz619 => ?_
                                have e620 : z619.toInt = y31 := Option.some.inj (hz619.symm.trans h616)
                                refine bs_lit (k := 1) rfl rfl fun z621 hz621 => ?_
                                first | (refine bs_add rfl (by omega) (by omega) fun z622 hz622 => ?_) | (refine bs_any rfl fun z622 => ?_)
                                have rz622 := n_range z622
                                refine bs_putI (W := [(11, 4, 4), (999, 0, 0)]) (g := 11) rfl rfl Hhp615 (bs_R.uq Hhp615 (g := 11) rfl) (by decide) rfl rfl rfl rfl (Or.inl rfl) (by omega) (by omega) fun hp623 Hhp623 fhp623 rhp623 ehp623 qhp623 nhp623 => ?_
                                have Fhp623 := sf_fr_tr Fhp615 (sf_fr_wider (W := [(999, 0, 0), (11, 4, 4), (11, 11, 14), (11, 17, 17)]) rfl fhp623)
                                have h624 : sf_rd hp623 69 13 = some (0 : Int) := (ehp623 _ _ (Or.inr (by omega))).trans h617
                                have h625 : sf_rd hp623 69 11 = some z611.toInt := (ehp623 _ _ (Or.inr (by omega))).trans h618
                                have h626 : sf_rd hp623 69 14 = some z32.toInt := (ehp623 _ _ (Or.inr (by omega))).trans rhp615
                                have A1 := psi_ge rhp623 h625
                                have A2 := psi_ge Q4 Q11
                                have PS : sf_psi hp623 ≤ sf_psi hp := by omega
                                exact Ev.ret rfl rfl (by rw [hQ]; exact ⟨t29, Hhp623, (fr_unmark H Fhp623 PS), bs_anU, sf_S_nil⟩)
                              · skip
                                refine bs_lit (k := 3) rfl rfl fun z627 hz627 => ?_
                                refine Ev.step (j := 145) (s' := ([some (.ref 69), some (.int z32), none, none], [.int z627, .ref 69], (0, 0), hp28)) rfl rfl ?_
                                refine bs_putI (W := [(11, 11, 11), (999, 0, 0)]) (g := 11) rfl rfl Hhp28 (bs_R.uq Hhp28 (g := 11) rfl) (by decide) rfl rfl rfl rfl (Or.inl rfl) (by omega) (by omega) fun hp628 Hhp628 fhp628 rhp628 ehp628 qhp628 nhp628 => ?_
                                have Fhp628 := sf_fr_tr Fhp28 (sf_fr_wider (W := [(999, 0, 0), (11, 4, 4), (11, 11, 14), (11, 17, 17)]) rfl fhp628)
                                have h629 : sf_rd hp628 69 4 = some y31 := (ehp628 _ _ (Or.inr (by omega))).trans hy31
                                have h630 : sf_rd hp628 69 13 = some (0 : Int) := (ehp628 _ _ (Or.inr (by omega))).trans cy31
                                refine Ev.step (j := 149) (s' := ([some (.ref 69), some (.int z32), none, none], [.ref 69], (0, 0), hp628)) rfl rfl ?_
                                refine Ev.step (j := 150) (s' := ([some (.ref 69), some (.int z32), none, none], [.int z32, .ref 69], (0, 0), hp628)) rfl rfl ?_
                                refine bs_putI (W := [(11, 14, 14)]) (g := 11) rfl rfl Hhp628 (bs_R.uq Hhp628 (g := 11) rfl) (by decide) rfl rfl rfl rfl (Or.inl rfl) (by omega) (by omega) fun hp631 Hhp631 fhp631 rhp631 ehp631 qhp631 nhp631 => ?_
                                have Fhp631 := sf_fr_tr Fhp628 (sf_fr_wider (W := [(999, 0, 0), (11, 4, 4), (11, 11, 14), (11, 17, 17)]) rfl fhp631)
                                have h632 : sf_rd hp631 69 4 = some y31 := (ehp631 _ _ (Or.inr (by omega))).trans h629
                                have h633 : sf_rd hp631 69 13 = some (0 : Int) := (ehp631 _ _ (Or.inr (by omega))).trans h630
                                have h634 : sf_rd hp631 69 11 = some z627.toInt := (ehp631 _ _ (Or.inr (by omega))).trans rhp628
                                refine Ev.step (j := 154) (s' := ([some (.ref 69), some (.int z32), none, none], [.ref 69], (0, 0), hp631)) rfl rfl ?_
                                refine Ev.step (j := 155) (s' := ([some (.ref 69), some (.int z32), none, none], [.ref 69, .ref 69], (0, 0), hp631)) rfl rfl ?_
                                refine bs_getI 11 rfl rfl rfl Hhp631 (bs_R.uq Hhp631 (g := 11) rfl) (by decide) rfl fun z635 hz635 lz635 gz635 => ?_
                                have e636 : z635.toInt = y31 := Option.some.inj (hz635.symm.trans h632)
                                refine bs_lit (k := 1) rfl rfl fun z637 hz637 => ?_
                                first | (refine bs_add rfl (by omega) (by omega) fun z638 hz638 => ?_) | (refine bs_any rfl fun z638 => ?_)
                                have rz638 := n_range z638
                                refine bs_putI (W := [(11, 4, 4), (999, 0, 0)]) (g := 11) rfl rfl Hhp631 (bs_R.uq Hhp631 (g := 11) rfl) (by decide) rfl rfl rfl rfl (Or.inl rfl) (by omega) (by omega) fun hp639 Hhp639 fhp639 rhp639 ehp639 qhp639 nhp639 => ?_
                                have Fhp639 := sf_fr_tr Fhp631 (sf_fr_wider (W := [(999, 0, 0), (11, 4, 4), (11, 11, 14), (11, 17, 17)]) rfl fhp639)
                                have h640 : sf_rd hp639 69 13 = some (0 : Int) := (ehp639 _ _ (Or.inr (by omega))).trans h633
                                have h641 : sf_rd hp639 69 11 = some z627.toInt := (ehp639 _ _ (Or.inr (by omega))).trans h634
                                have h642 : sf_rd hp639 69 14 = some z32.toInt := (ehp639 _ _ (Or.inr (by omega))).trans rhp631
                                have A1 := psi_ge rhp639 h641
                                have A2 := psi_ge Q4 Q11
                                have PS : sf_psi hp639 ≤ sf_psi hp := by omega
                                exact Ev.ret rfl rfl (by rw [hQ]; exact ⟨t29, Hhp639, (fr_unmark H Fhp639 PS), bs_anU, sf_S_nil⟩)
                  · skip
                    refine bs_lit (k := 1) rfl rfl fun z643 hz643 => ?_
                    refine Ev.step (j := 17) (s' := ([some (.int z32)], [.int z643], (0, 0), hp28)) rfl rfl ?_
                    refine bs_zret rfl rfl (by omega) (by omega) ?_
                    rw [← hQ416]
                    refine (show Ev _ 106 ([some (.ref 69), some (.int z32), none, none], [.int z643], (0, 0), hp28) _ from ?_)
                    refine bs_ifne rfl (fun c644 => ?_) (fun c644 => ?_)
                    · skip
                      refine Ev.step (j := 165) (s' := ([some (.ref 69), some (.int z32), none, none], [.int z32], (0, 0), hp28)) rfl rfl ?_
                      refine Ev.inlS (L := L_X11_isSmall) (nL := 1) rfl rfl (Nat.le_of_ble_eq_true rfl) ?_
                      generalize hQ645 : (fun (o : ab_O) => Ev _ _ _ _) = Q645
                      refine (show Ev (ab_T L_X11_isSmall) 0 ([some (.int z32)], [], (0, 0), hp28) Q645 from ?_)
                      refine Ev.step (j := 1) (s' := ([some (.int z32)], [.int z32], (0, 0), hp28)) rfl rfl ?_
                      refine bs_lit (k := 97) rfl rfl fun z646 hz646 => ?_
                      refine bs_lt rfl (fun c647 => ?_) (fun c647 => ?_)
                      · skip
                        refine bs_lit (k := 0) rfl rfl fun z648 hz648 => ?_
                        refine bs_zret rfl rfl (by omega) (by omega) ?_
                        rw [← hQ645]
                        refine (show Ev _ 168 ([some (.ref 69), some (.int z32), none, none], [.int z648], (0, 0), hp28) _ from ?_)
                        refine Ev.step (j := 169) (s' := ([some (.ref 69), some (.int z32), some (.int z648), none], [], (0, 0), hp28)) rfl rfl ?_
                        refine bs_lit (k := 1) rfl rfl fun z649 hz649 => ?_
                        have INV : ∃ v : Int, sf_rd hp28 69 4 = some v ∧ sf_rd hp28 69 13 = some 0 ∧ P0 ≤ v ∧ v ≤ 940 ∧ ((48 ≤ z32.toInt ∧ z32.toInt ≤ 57) ∨ (97 ≤ z32.toInt ∧ z32.toInt ≤ 122)) ∧ pkR hp28 z32 := ⟨_, hy31, cy31, by omega, by omega, by omega, pz32⟩
                        refine Ev.step (j := 171) (s' := ([some (.ref 69), some (.int z32), some (.int z648), some (.int z649)], [], (0, 0), hp28)) rfl rfl ?_
                        exact cut34 z648 z649 hp28 t29 Hhp28 Fhp28 (by exact INV) (by first | omega | assumption)
                      · skip
                        refine Ev.step (j := 7) (s' := ([some (.int z32)], [.int z32], (0, 0), hp28)) rfl rfl ?_
                        refine bs_lit (k := 122) rfl rfl fun z650 hz650 => ?_
                        refine bs_gt rfl (fun c651 => ?_) (fun c651 => ?_)
                        · skip
                          refine bs_lit (k := 0) rfl rfl fun z652 hz652 => ?_
                          refine bs_zret rfl rfl (by omega) (by omega) ?_
                          rw [← hQ645]
                          refine (show Ev _ 168 ([some (.ref 69), some (.int z32), none, none], [.int z652], (0, 0), hp28) _ from ?_)
                          refine Ev.step (j := 169) (s' := ([some (.ref 69), some (.int z32), some (.int z652), none], [], (0, 0), hp28)) rfl rfl ?_
                          refine bs_lit (k := 1) rfl rfl fun z653 hz653 => ?_
                          have INV : ∃ v : Int, sf_rd hp28 69 4 = some v ∧ sf_rd hp28 69 13 = some 0 ∧ P0 ≤ v ∧ v ≤ 940 ∧ ((48 ≤ z32.toInt ∧ z32.toInt ≤ 57) ∨ (97 ≤ z32.toInt ∧ z32.toInt ≤ 122)) ∧ pkR hp28 z32 := ⟨_, hy31, cy31, by omega, by omega, by omega, pz32⟩
                          refine Ev.step (j := 171) (s' := ([some (.ref 69), some (.int z32), some (.int z652), some (.int z653)], [], (0, 0), hp28)) rfl rfl ?_
                          exact cut34 z652 z653 hp28 t29 Hhp28 Fhp28 (by exact INV) (by first | omega | assumption)
                        · skip
                          refine bs_lit (k := 1) rfl rfl fun z654 hz654 => ?_
                          refine Ev.step (j := 17) (s' := ([some (.int z32)], [.int z654], (0, 0), hp28)) rfl rfl ?_
                          refine bs_zret rfl rfl (by omega) (by omega) ?_
                          rw [← hQ645]
                          refine (show Ev _ 168 ([some (.ref 69), some (.int z32), none, none], [.int z654], (0, 0), hp28) _ from ?_)
                          refine Ev.step (j := 169) (s' := ([some (.ref 69), some (.int z32), some (.int z654), none], [], (0, 0), hp28)) rfl rfl ?_
                          refine bs_lit (k := 1) rfl rfl fun z655 hz655 => ?_
                          have INV : ∃ v : Int, sf_rd hp28 69 4 = some v ∧ sf_rd hp28 69 13 = some 0 ∧ P0 ≤ v ∧ v ≤ 940 ∧ ((48 ≤ z32.toInt ∧ z32.toInt ≤ 57) ∨ (97 ≤ z32.toInt ∧ z32.toInt ≤ 122)) ∧ pkR hp28 z32 := ⟨_, hy31, cy31, by omega, by omega, by omega, pz32⟩
                          refine Ev.step (j := 171) (s' := ([some (.ref 69), some (.int z32), some (.int z654), some (.int z655)], [], (0, 0), hp28)) rfl rfl ?_
                          exact cut34 z654 z655 hp28 t29 Hhp28 Fhp28 (by exact INV) (by first | omega | assumption)
                    · exfalso; omega
            · skip
              refine Ev.step (j := 7) (s' := ([some (.int z32)], [.int z32], (0, 0), hp28)) rfl rfl ?_
              refine bs_lit (k := 122) rfl rfl fun z656 hz656 => ?_
              refine bs_gt rfl (fun c657 => ?_) (fun c657 => ?_)
              · skip
                refine bs_lit (k := 0) rfl rfl fun z658 hz658 => ?_
                refine bs_zret rfl rfl (by omega) (by omega) ?_
                rw [← hQ411]
                refine (show Ev _ 99 ([some (.ref 69), some (.int z32), none, none], [.int z658], (0, 0), hp28) _ from ?_)
                refine bs_ifne rfl (fun c659 => ?_) (fun c659 => ?_)
                · exfalso; omega
                · skip
                  refine Ev.step (j := 103) (s' := ([some (.ref 69), some (.int z32), none, none], [.int z32], (0, 0), hp28)) rfl rfl ?_
                  refine Ev.inlS (L := L_X11_isDigit) (nL := 1) rfl rfl (Nat.le_of_ble_eq_true rfl) ?_
                  generalize hQ660 : (fun (o : ab_O) => Ev _ _ _ _) = Q660
                  refine (show Ev (ab_T L_X11_isDigit) 0 ([some (.int z32)], [], (0, 0), hp28) Q660 from ?_)
                  refine Ev.step (j := 1) (s' := ([some (.int z32)], [.int z32], (0, 0), hp28)) rfl rfl ?_
                  refine bs_lit (k := 48) rfl rfl fun z661 hz661 => ?_
                  refine bs_lt rfl (fun c662 => ?_) (fun c662 => ?_)
                  · skip
                    refine bs_lit (k := 0) rfl rfl fun z663 hz663 => ?_
                    refine bs_zret rfl rfl (by omega) (by omega) ?_
                    rw [← hQ660]
                    refine (show Ev _ 106 ([some (.ref 69), some (.int z32), none, none], [.int z663], (0, 0), hp28) _ from ?_)
                    refine bs_ifne rfl (fun c664 => ?_) (fun c664 => ?_)
                    · exfalso; omega
                    · skip
                      refine Ev.step (j := 110) (s' := ([some (.ref 69), some (.int z32), none, none], [.ref 69], (0, 0), hp28)) rfl rfl ?_
                      refine Ev.step (j := 111) (s' := ([some (.ref 69), some (.int z32), none, none], [.int z32, .ref 69], (0, 0), hp28)) rfl rfl ?_
                      refine bs_lit (k := 59) rfl rfl fun z665 hz665 => ?_
                      refine bs_eq rfl (fun c666 => ?_) (fun c666 => ?_)
                      · skip
                        have c667 : z32.toInt = 59 := by omega
                        refine bs_lit (k := 3) rfl rfl fun z668 hz668 => ?_
                        refine Ev.step (j := 145) (s' := ([some (.ref 69), some (.int z32), none, none], [.int z668, .ref 69], (0, 0), hp28)) rfl rfl ?_
                        refine bs_putI (W := [(11, 11, 11), (999, 0, 0)]) (g := 11) rfl rfl Hhp28 (bs_R.uq Hhp28 (g := 11) rfl) (by decide) rfl rfl rfl rfl (Or.inl rfl) (by omega) (by omega) fun hp669 Hhp669 fhp669 rhp669 ehp669 qhp669 nhp669 => ?_
                        have Fhp669 := sf_fr_tr Fhp28 (sf_fr_wider (W := [(999, 0, 0), (11, 4, 4), (11, 11, 14), (11, 17, 17)]) rfl fhp669)
                        have h670 : sf_rd hp669 69 4 = some y31 := (ehp669 _ _ (Or.inr (by omega))).trans hy31
                        have h671 : sf_rd hp669 69 13 = some (0 : Int) := (ehp669 _ _ (Or.inr (by omega))).trans cy31
                        refine Ev.step (j := 149) (s' := ([some (.ref 69), some (.int z32), none, none], [.ref 69], (0, 0), hp669)) rfl rfl ?_
                        refine Ev.step (j := 150) (s' := ([some (.ref 69), some (.int z32), none, none], [.int z32, .ref 69], (0, 0), hp669)) rfl rfl ?_
                        refine bs_putI (W := [(11, 14, 14)]) (g := 11) rfl rfl Hhp669 (bs_R.uq Hhp669 (g := 11) rfl) (by decide) rfl rfl rfl rfl (Or.inl rfl) (by omega) (by omega) fun hp672 Hhp672 fhp672 rhp672 ehp672 qhp672 nhp672 => ?_
                        have Fhp672 := sf_fr_tr Fhp669 (sf_fr_wider (W := [(999, 0, 0), (11, 4, 4), (11, 11, 14), (11, 17, 17)]) rfl fhp672)
                        have h673 : sf_rd hp672 69 4 = some y31 := (ehp672 _ _ (Or.inr (by omega))).trans h670
                        have h674 : sf_rd hp672 69 13 = some (0 : Int) := (ehp672 _ _ (Or.inr (by omega))).trans h671
                        have h675 : sf_rd hp672 69 11 = some z668.toInt := (ehp672 _ _ (Or.inr (by omega))).trans rhp669
                        refine Ev.step (j := 154) (s' := ([some (.ref 69), some (.int z32), none, none], [.ref 69], (0, 0), hp672)) rfl rfl ?_
                        refine Ev.step (j := 155) (s' := ([some (.ref 69), some (.int z32), none, none], [.ref 69, .ref 69], (0, 0), hp672)) rfl rfl ?_
                        refine bs_getI 11 rfl rfl rfl Hhp672 (bs_R.uq Hhp672 (g := 11) rfl) (by decide) rfl fun z676 hz676 lz676 gz676 => ?_
                        have e677 : z676.toInt = y31 := Option.some.inj (hz676.symm.trans h673)
                        refine bs_lit (k := 1) rfl rfl fun z678 hz678 => ?_
                        first | (refine bs_add rfl (by omega) (by omega) fun z679 hz679 => ?_) | (refine bs_any rfl fun z679 => ?_)
                        have rz679 := n_range z679
                        refine bs_putI (W := [(11, 4, 4), (999, 0, 0)]) (g := 11) rfl rfl Hhp672 (bs_R.uq Hhp672 (g := 11) rfl) (by decide) rfl rfl rfl rfl (Or.inl rfl) (by omega) (by omega) fun hp680 Hhp680 fhp680 rhp680 ehp680 qhp680 nhp680 => ?_
                        have Fhp680 := sf_fr_tr Fhp672 (sf_fr_wider (W := [(999, 0, 0), (11, 4, 4), (11, 11, 14), (11, 17, 17)]) rfl fhp680)
                        have h681 : sf_rd hp680 69 13 = some (0 : Int) := (ehp680 _ _ (Or.inr (by omega))).trans h674
                        have h682 : sf_rd hp680 69 11 = some z668.toInt := (ehp680 _ _ (Or.inr (by omega))).trans h675
                        have h683 : sf_rd hp680 69 14 = some z32.toInt := (ehp680 _ _ (Or.inr (by omega))).trans rhp672
                        have A1 := psi_ge rhp680 h682
                        have A2 := psi_ge Q4 Q11
                        have PS : sf_psi hp680 ≤ sf_psi hp := by omega
                        exact Ev.ret rfl rfl (by rw [hQ]; exact ⟨t29, Hhp680, (fr_unmark H Fhp680 PS), bs_anU, sf_S_nil⟩)
                      · skip
                        refine Ev.step (j := 117) (s' := ([some (.ref 69), some (.int z32), none, none], [.int z32, .ref 69], (0, 0), hp28)) rfl rfl ?_
                        refine bs_lit (k := 40) rfl rfl fun z684 hz684 => ?_
                        refine bs_eq rfl (fun c685 => ?_) (fun c685 => ?_)
                        · skip
                          have c686 : z32.toInt = 40 := by omega
                          refine bs_lit (k := 3) rfl rfl fun z687 hz687 => ?_
                          refine Ev.step (j := 145) (s' := ([some (.ref 69), some (.int z32), none, none], [.int z687, .ref 69], (0, 0), hp28)) rfl rfl ?_
                          refine bs_putI (W := [(11, 11, 11), (999, 0, 0)]) (g := 11) rfl rfl Hhp28 (bs_R.uq Hhp28 (g := 11) rfl) (by decide) rfl rfl rfl rfl (Or.inl rfl) (by omega) (by omega) fun hp688 Hhp688 fhp688 rhp688 ehp688 qhp688 nhp688 => ?_
                          have Fhp688 := sf_fr_tr Fhp28 (sf_fr_wider (W := [(999, 0, 0), (11, 4, 4), (11, 11, 14), (11, 17, 17)]) rfl fhp688)
                          have h689 : sf_rd hp688 69 4 = some y31 := (ehp688 _ _ (Or.inr (by omega))).trans hy31
                          have h690 : sf_rd hp688 69 13 = some (0 : Int) := (ehp688 _ _ (Or.inr (by omega))).trans cy31
                          refine Ev.step (j := 149) (s' := ([some (.ref 69), some (.int z32), none, none], [.ref 69], (0, 0), hp688)) rfl rfl ?_
                          refine Ev.step (j := 150) (s' := ([some (.ref 69), some (.int z32), none, none], [.int z32, .ref 69], (0, 0), hp688)) rfl rfl ?_
                          refine bs_putI (W := [(11, 14, 14)]) (g := 11) rfl rfl Hhp688 (bs_R.uq Hhp688 (g := 11) rfl) (by decide) rfl rfl rfl rfl (Or.inl rfl) (by omega) (by omega) fun hp691 Hhp691 fhp691 rhp691 ehp691 qhp691 nhp691 => ?_
                          have Fhp691 := sf_fr_tr Fhp688 (sf_fr_wider (W := [(999, 0, 0), (11, 4, 4), (11, 11, 14), (11, 17, 17)]) rfl fhp691)
                          have h692 : sf_rd hp691 69 4 = some y31 := (ehp691 _ _ (Or.inr (by omega))).trans h689
                          have h693 : sf_rd hp691 69 13 = some (0 : Int) := (ehp691 _ _ (Or.inr (by omega))).trans h690
                          have h694 : sf_rd hp691 69 11 = some z687.toInt := (ehp691 _ _ (Or.inr (by omega))).trans rhp688
                          refine Ev.step (j := 154) (s' := ([some (.ref 69), some (.int z32), none, none], [.ref 69], (0, 0), hp691)) rfl rfl ?_
                          refine Ev.step (j := 155) (s' := ([some (.ref 69), some (.int z32), none, none], [.ref 69, .ref 69], (0, 0), hp691)) rfl rfl ?_
                          refine bs_getI 11 rfl rfl rfl Hhp691 (bs_R.uq Hhp691 (g := 11) rfl) (by decide) rfl fun z695 hz695 lz695 gz695 => ?_
                          have e696 : z695.toInt = y31 := Option.some.inj (hz695.symm.trans h692)
                          refine bs_lit (k := 1) rfl rfl fun z697 hz697 => ?_
                          first | (refine bs_add rfl (by omega) (by omega) fun z698 hz698 => ?_) | (refine bs_any rfl fun z698 => ?_)
                          have rz698 := n_range z698
                          refine bs_putI (W := [(11, 4, 4), (999, 0, 0)]) (g := 11) rfl rfl Hhp691 (bs_R.uq Hhp691 (g := 11) rfl) (by decide) rfl rfl rfl rfl (Or.inl rfl) (by omega) (by omega) fun hp699 Hhp699 fhp699 rhp699 ehp699 qhp699 nhp699 => ?_
                          have Fhp699 := sf_fr_tr Fhp691 (sf_fr_wider (W := [(999, 0, 0), (11, 4, 4), (11, 11, 14), (11, 17, 17)]) rfl fhp699)
                          have h700 : sf_rd hp699 69 13 = some (0 : Int) := (ehp699 _ _ (Or.inr (by omega))).trans h693
                          have h701 : sf_rd hp699 69 11 = some z687.toInt := (ehp699 _ _ (Or.inr (by omega))).trans h694
                          have h702 : sf_rd hp699 69 14 = some z32.toInt := (ehp699 _ _ (Or.inr (by omega))).trans rhp691
                          have A1 := psi_ge rhp699 h701
                          have A2 := psi_ge Q4 Q11
                          have PS : sf_psi hp699 ≤ sf_psi hp := by omega
                          exact Ev.ret rfl rfl (by rw [hQ]; exact ⟨t29, Hhp699, (fr_unmark H Fhp699 PS), bs_anU, sf_S_nil⟩)
                        · skip
                          refine Ev.step (j := 123) (s' := ([some (.ref 69), some (.int z32), none, none], [.int z32, .ref 69], (0, 0), hp28)) rfl rfl ?_
                          refine bs_lit (k := 41) rfl rfl fun z703 hz703 => ?_
                          refine bs_eq rfl (fun c704 => ?_) (fun c704 => ?_)
                          · skip
                            have c705 : z32.toInt = 41 := by omega
                            refine bs_lit (k := 3) rfl rfl fun z706 hz706 => ?_
                            refine Ev.step (j := 145) (s' := ([some (.ref 69), some (.int z32), none, none], [.int z706, .ref 69], (0, 0), hp28)) rfl rfl ?_
                            refine bs_putI (W := [(11, 11, 11), (999, 0, 0)]) (g := 11) rfl rfl Hhp28 (bs_R.uq Hhp28 (g := 11) rfl) (by decide) rfl rfl rfl rfl (Or.inl rfl) (by omega) (by omega) fun hp707 Hhp707 fhp707 rhp707 ehp707 qhp707 nhp707 => ?_
                            have Fhp707 := sf_fr_tr Fhp28 (sf_fr_wider (W := [(999, 0, 0), (11, 4, 4), (11, 11, 14), (11, 17, 17)]) rfl fhp707)
                            have h708 : sf_rd hp707 69 4 = some y31 := (ehp707 _ _ (Or.inr (by omega))).trans hy31
                            have h709 : sf_rd hp707 69 13 = some (0 : Int) := (ehp707 _ _ (Or.inr (by omega))).trans cy31
                            refine Ev.step (j := 149) (s' := ([some (.ref 69), some (.int z32), none, none], [.ref 69], (0, 0), hp707)) rfl rfl ?_
                            refine Ev.step (j := 150) (s' := ([some (.ref 69), some (.int z32), none, none], [.int z32, .ref 69], (0, 0), hp707)) rfl rfl ?_
                            refine bs_putI (W := [(11, 14, 14)]) (g := 11) rfl rfl Hhp707 (bs_R.uq Hhp707 (g := 11) rfl) (by decide) rfl rfl rfl rfl (Or.inl rfl) (by omega) (by omega) fun hp710 Hhp710 fhp710 rhp710 ehp710 qhp710 nhp710 => ?_
                            have Fhp710 := sf_fr_tr Fhp707 (sf_fr_wider (W := [(999, 0, 0), (11, 4, 4), (11, 11, 14), (11, 17, 17)]) rfl fhp710)
                            have h711 : sf_rd hp710 69 4 = some y31 := (ehp710 _ _ (Or.inr (by omega))).trans h708
                            have h712 : sf_rd hp710 69 13 = some (0 : Int) := (ehp710 _ _ (Or.inr (by omega))).trans h709
                            have h713 : sf_rd hp710 69 11 = some z706.toInt := (ehp710 _ _ (Or.inr (by omega))).trans rhp707
                            refine Ev.step (j := 154) (s' := ([some (.ref 69), some (.int z32), none, none], [.ref 69], (0, 0), hp710)) rfl rfl ?_
                            refine Ev.step (j := 155) (s' := ([some (.ref 69), some (.int z32), none, none], [.ref 69, .ref 69], (0, 0), hp710)) rfl rfl ?_
                            refine bs_getI 11 rfl rfl rfl Hhp710 (bs_R.uq Hhp710 (g := 11) rfl) (by decide) rfl fun z714 hz714 lz714 gz714 => ?_
                            have e715 : z714.toInt = y31 := Option.some.inj (hz714.symm.trans h711)
                            refine bs_lit (k := 1) rfl rfl fun z716 hz716 => ?_
                            first | (refine bs_add rfl (by omega) (by omega) fun z717 hz717 => ?_) | (refine bs_any rfl fun z717 => ?_)
                            have rz717 := n_range z717
                            refine bs_putI (W := [(11, 4, 4), (999, 0, 0)]) (g := 11) rfl rfl Hhp710 (bs_R.uq Hhp710 (g := 11) rfl) (by decide) rfl rfl rfl rfl (Or.inl rfl) (by omega) (by omega) fun hp718 Hhp718 fhp718 rhp718 ehp718 qhp718 nhp718 => ?_
                            have Fhp718 := sf_fr_tr Fhp710 (sf_fr_wider (W := [(999, 0, 0), (11, 4, 4), (11, 11, 14), (11, 17, 17)]) rfl fhp718)
                            have h719 : sf_rd hp718 69 13 = some (0 : Int) := (ehp718 _ _ (Or.inr (by omega))).trans h712
                            have h720 : sf_rd hp718 69 11 = some z706.toInt := (ehp718 _ _ (Or.inr (by omega))).trans h713
                            have h721 : sf_rd hp718 69 14 = some z32.toInt := (ehp718 _ _ (Or.inr (by omega))).trans rhp710
                            have A1 := psi_ge rhp718 h720
                            have A2 := psi_ge Q4 Q11
                            have PS : sf_psi hp718 ≤ sf_psi hp := by omega
                            exact Ev.ret rfl rfl (by rw [hQ]; exact ⟨t29, Hhp718, (fr_unmark H Fhp718 PS), bs_anU, sf_S_nil⟩)
                          · skip
                            refine Ev.step (j := 129) (s' := ([some (.ref 69), some (.int z32), none, none], [.int z32, .ref 69], (0, 0), hp28)) rfl rfl ?_
                            refine bs_lit (k := 60) rfl rfl fun z722 hz722 => ?_
                            refine bs_lt rfl (fun c723 => ?_) (fun c723 => ?_)
                            · skip
                              refine bs_lit (k := 4) rfl rfl fun z724 hz724 => ?_
                              refine bs_putI (W := [(11, 11, 11), (999, 0, 0)]) (g := 11) rfl rfl Hhp28 (bs_R.uq Hhp28 (g := 11) rfl) (by decide) rfl rfl rfl rfl (Or.inl rfl) (by omega) (by omega) fun hp725 Hhp725 fhp725 rhp725 ehp725 qhp725 nhp725 => ?_
                              have Fhp725 := sf_fr_tr Fhp28 (sf_fr_wider (W := [(999, 0, 0), (11, 4, 4), (11, 11, 14), (11, 17, 17)]) rfl fhp725)
                              have h726 : sf_rd hp725 69 4 = some y31 := (ehp725 _ _ (Or.inr (by omega))).trans hy31
                              have h727 : sf_rd hp725 69 13 = some (0 : Int) := (ehp725 _ _ (Or.inr (by omega))).trans cy31
                              refine Ev.step (j := 149) (s' := ([some (.ref 69), some (.int z32), none, none], [.ref 69], (0, 0), hp725)) rfl rfl ?_
                              refine Ev.step (j := 150) (s' := ([some (.ref 69), some (.int z32), none, none], [.int z32, .ref 69], (0, 0), hp725)) rfl rfl ?_
                              refine bs_putI (W := [(11, 14, 14)]) (g := 11) rfl rfl Hhp725 (bs_R.uq Hhp725 (g := 11) rfl) (by decide) rfl rfl rfl rfl (Or.inl rfl) (by omega) (by omega) fun hp728 Hhp728 fhp728 rhp728 ehp728 qhp728 nhp728 => ?_
                              have Fhp728 := sf_fr_tr Fhp725 (sf_fr_wider (W := [(999, 0, 0), (11, 4, 4), (11, 11, 14), (11, 17, 17)]) rfl fhp728)
                              have h729 : sf_rd hp728 69 4 = some y31 := (ehp728 _ _ (Or.inr (by omega))).trans h726
                              have h730 : sf_rd hp728 69 13 = some (0 : Int) := (ehp728 _ _ (Or.inr (by omega))).trans h727
                              have h731 : sf_rd hp728 69 11 = some z724.toInt := (ehp728 _ _ (Or.inr (by omega))).trans rhp725
                              refine Ev.step (j := 154) (s' := ([some (.ref 69), some (.int z32), none, none], [.ref 69], (0, 0), hp728)) rfl rfl ?_
                              refine Ev.step (j := 155) (s' := ([some (.ref 69), some (.int z32), none, none], [.ref 69, .ref 69], (0, 0), hp728)) rfl rfl ?_
                              refine bs_getI 11 rfl rfl rfl Hhp728 (bs_R.uq Hhp728 (g := 11) rfl) (by decide) rfl fun z732 hz732 lz732 gz732 => ?_
                              have e733 : z732.toInt = y31 := Option.some.inj (hz732.symm.trans h729)
                              refine bs_lit (k := 1) rfl rfl fun z734 hz734 => ?_
                              first | (refine bs_add rfl (by omega) (by omega) fun z735 hz735 => ?_) | (refine bs_any rfl fun z735 => ?_)
                              have rz735 := n_range z735
                              refine bs_putI (W := [(11, 4, 4), (999, 0, 0)]) (g := 11) rfl rfl Hhp728 (bs_R.uq Hhp728 (g := 11) rfl) (by decide) rfl rfl rfl rfl (Or.inl rfl) (by omega) (by omega) fun hp736 Hhp736 fhp736 rhp736 ehp736 qhp736 nhp736 => ?_
                              have Fhp736 := sf_fr_tr Fhp728 (sf_fr_wider (W := [(999, 0, 0), (11, 4, 4), (11, 11, 14), (11, 17, 17)]) rfl fhp736)
                              have h737 : sf_rd hp736 69 13 = some (0 : Int) := (ehp736 _ _ (Or.inr (by omega))).trans h730
                              have h738 : sf_rd hp736 69 11 = some z724.toInt := (ehp736 _ _ (Or.inr (by omega))).trans h731
                              have h739 : sf_rd hp736 69 14 = some z32.toInt := (ehp736 _ _ (Or.inr (by omega))).trans rhp728
                              have A1 := psi_ge rhp736 h738
                              have A2 := psi_ge Q4 Q11
                              have PS : sf_psi hp736 ≤ sf_psi hp := by omega
                              exact Ev.ret rfl rfl (by rw [hQ]; exact ⟨t29, Hhp736, (fr_unmark H Fhp736 PS), bs_anU, sf_S_nil⟩)
                            · skip
                              refine Ev.step (j := 135) (s' := ([some (.ref 69), some (.int z32), none, none], [.int z32, .ref 69], (0, 0), hp28)) rfl rfl ?_
                              refine bs_lit (k := 62) rfl rfl fun z740 hz740 => ?_
                              refine bs_gt rfl (fun c741 => ?_) (fun c741 => ?_)
                              · skip
                                refine bs_lit (k := 4) rfl rfl fun z742 hz742 => ?_
                                refine bs_putI (W := [(11, 11, 11), (999, 0, 0)]) (g := 11) rfl rfl Hhp28 (bs_R.uq Hhp28 (g := 11) rfl) (by decide) rfl rfl rfl rfl (Or.inl rfl) (by omega) (by omega) fun hp743 Hhp743 fhp743 rhp743 ehp743 qhp743 nhp743 => ?_
                                have Fhp743 := sf_fr_tr Fhp28 (sf_fr_wider (W := [(999, 0, 0), (11, 4, 4), (11, 11, 14), (11, 17, 17)]) rfl fhp743)
                                have h744 : sf_rd hp743 69 4 = some y31 := (ehp743 _ _ (Or.inr (by omega))).trans hy31
                                have h745 : sf_rd hp743 69 13 = some (0 : Int) := (ehp743 _ _ (Or.inr (by omega))).trans cy31
                                refine Ev.step (j := 149) (s' := ([some (.ref 69), some (.int z32), none, none], [.ref 69], (0, 0), hp743)) rfl rfl ?_
                                refine Ev.step (j := 150) (s' := ([some (.ref 69), some (.int z32), none, none], [.int z32, .ref 69], (0, 0), hp743)) rfl rfl ?_
                                refine bs_putI (W := [(11, 14, 14)]) (g := 11) rfl rfl Hhp743 (bs_R.uq Hhp743 (g := 11) rfl) (by decide) rfl rfl rfl rfl (Or.inl rfl) (by omega) (by omega) fun hp746 Hhp746 fhp746 rhp746 ehp746 qhp746 nhp746 => ?_
                                have Fhp746 := sf_fr_tr Fhp743 (sf_fr_wider (W := [(999, 0, 0), (11, 4, 4), (11, 11, 14), (11, 17, 17)]) rfl fhp746)
                                have h747 : sf_rd hp746 69 4 = some y31 := (ehp746 _ _ (Or.inr (by omega))).trans h744
                                have h748 : sf_rd hp746 69 13 = some (0 : Int) := (ehp746 _ _ (Or.inr (by omega))).trans h745
                                have h749 : sf_rd hp746 69 11 = some z742.toInt := (ehp746 _ _ (Or.inr (by omega))).trans rhp743
                                refine Ev.step (j := 154) (s' := ([some (.ref 69), some (.int z32), none, none], [.ref 69], (0, 0), hp746)) rfl rfl ?_
                                refine Ev.step (j := 155) (s' := ([some (.ref 69), some (.int z32), none, none], [.ref 69, .ref 69], (0, 0), hp746)) rfl rfl ?_
                                refine bs_getI 11 rfl rfl rfl Hhp746 (bs_R.uq Hhp746 (g := 11) rfl) (by decide) rfl fun z750 hz750 lz750 gz750 => ?_
                                have e751 : z750.toInt = y31 := Option.some.inj (hz750.symm.trans h747)
                                refine bs_lit (k := 1) rfl rfl fun z752 hz752 => ?_
                                first | (refine bs_add rfl (by omega) (by omega) fun z753 hz753 => ?_) | (refine bs_any rfl fun z753 => ?_)
                                have rz753 := n_range z753
                                refine bs_putI (W := [(11, 4, 4), (999, 0, 0)]) (g := 11) rfl rfl Hhp746 (bs_R.uq Hhp746 (g := 11) rfl) (by decide) rfl rfl rfl rfl (Or.inl rfl) (by omega) (by omega) fun hp754 Hhp754 fhp754 rhp754 ehp754 qhp754 nhp754 => ?_
                                have Fhp754 := sf_fr_tr Fhp746 (sf_fr_wider (W := [(999, 0, 0), (11, 4, 4), (11, 11, 14), (11, 17, 17)]) rfl fhp754)
                                have h755 : sf_rd hp754 69 13 = some (0 : Int) := (ehp754 _ _ (Or.inr (by omega))).trans h748
                                have h756 : sf_rd hp754 69 11 = some z742.toInt := (ehp754 _ _ (Or.inr (by omega))).trans h749
                                have h757 : sf_rd hp754 69 14 = some z32.toInt := (ehp754 _ _ (Or.inr (by omega))).trans rhp746
                                have A1 := psi_ge rhp754 h756
                                have A2 := psi_ge Q4 Q11
                                have PS : sf_psi hp754 ≤ sf_psi hp := by omega
                                exact Ev.ret rfl rfl (by rw [hQ]; exact ⟨t29, Hhp754, (fr_unmark H Fhp754 PS), bs_anU, sf_S_nil⟩)
                              · skip
                                refine bs_lit (k := 3) rfl rfl fun z758 hz758 => ?_
                                refine Ev.step (j := 145) (s' := ([some (.ref 69), some (.int z32), none, none], [.int z758, .ref 69], (0, 0), hp28)) rfl rfl ?_
                                refine bs_putI (W := [(11, 11, 11), (999, 0, 0)]) (g := 11) rfl rfl Hhp28 (bs_R.uq Hhp28 (g := 11) rfl) (by decide) rfl rfl rfl rfl (Or.inl rfl) (by omega) (by omega) fun hp759 Hhp759 fhp759 rhp759 ehp759 qhp759 nhp759 => ?_
                                have Fhp759 := sf_fr_tr Fhp28 (sf_fr_wider (W := [(999, 0, 0), (11, 4, 4), (11, 11, 14), (11, 17, 17)]) rfl fhp759)
                                have h760 : sf_rd hp759 69 4 = some y31 := (ehp759 _ _ (Or.inr (by omega))).trans hy31
                                have h761 : sf_rd hp759 69 13 = some (0 : Int) := (ehp759 _ _ (Or.inr (by omega))).trans cy31
                                refine Ev.step (j := 149) (s' := ([some (.ref 69), some (.int z32), none, none], [.ref 69], (0, 0), hp759)) rfl rfl ?_
                                refine Ev.step (j := 150) (s' := ([some (.ref 69), some (.int z32), none, none], [.int z32, .ref 69], (0, 0), hp759)) rfl rfl ?_
                                refine bs_putI (W := [(11, 14, 14)]) (g := 11) rfl rfl Hhp759 (bs_R.uq Hhp759 (g := 11) rfl) (by decide) rfl rfl rfl rfl (Or.inl rfl) (by omega) (by omega) fun hp762 Hhp762 fhp762 rhp762 ehp762 qhp762 nhp762 => ?_
                                have Fhp762 := sf_fr_tr Fhp759 (sf_fr_wider (W := [(999, 0, 0), (11, 4, 4), (11, 11, 14), (11, 17, 17)]) rfl fhp762)
                                have h763 : sf_rd hp762 69 4 = some y31 := (ehp762 _ _ (Or.inr (by omega))).trans h760
                                have h764 : sf_rd hp762 69 13 = some (0 : Int) := (ehp762 _ _ (Or.inr (by omega))).trans h761
                                have h765 : sf_rd hp762 69 11 = some z758.toInt := (ehp762 _ _ (Or.inr (by omega))).trans rhp759
                                refine Ev.step (j := 154) (s' := ([some (.ref 69), some (.int z32), none, none], [.ref 69], (0, 0), hp762)) rfl rfl ?_
                                refine Ev.step (j := 155) (s' := ([some (.ref 69), some (.int z32), none, none], [.ref 69, .ref 69], (0, 0), hp762)) rfl rfl ?_
                                refine bs_getI 11 rfl rfl rfl Hhp762 (bs_R.uq Hhp762 (g := 11) rfl) (by decide) rfl fun z766 hz766 lz766 gz766 => ?_
                                have e767 : z766.toInt = y31 := Option.some.inj (hz766.symm.trans h763)
                                refine bs_lit (k := 1) rfl rfl fun z768 hz768 => ?_
                                first | (refine bs_add rfl (by omega) (by omega) fun z769 hz769 => ?_) | (refine bs_any rfl fun z769 => ?_)
                                have rz769 := n_range z769
                                refine bs_putI (W := [(11, 4, 4), (999, 0, 0)]) (g := 11) rfl rfl Hhp762 (bs_R.uq Hhp762 (g := 11) rfl) (by decide) rfl rfl rfl rfl (Or.inl rfl) (by omega) (by omega) fun hp770 Hhp770 fhp770 rhp770 ehp770 qhp770 nhp770 => ?_
                                have Fhp770 := sf_fr_tr Fhp762 (sf_fr_wider (W := [(999, 0, 0), (11, 4, 4), (11, 11, 14), (11, 17, 17)]) rfl fhp770)
                                have h771 : sf_rd hp770 69 13 = some (0 : Int) := (ehp770 _ _ (Or.inr (by omega))).trans h764
                                have h772 : sf_rd hp770 69 11 = some z758.toInt := (ehp770 _ _ (Or.inr (by omega))).trans h765
                                have h773 : sf_rd hp770 69 14 = some z32.toInt := (ehp770 _ _ (Or.inr (by omega))).trans rhp762
                                have A1 := psi_ge rhp770 h772
                                have A2 := psi_ge Q4 Q11
                                have PS : sf_psi hp770 ≤ sf_psi hp := by omega
                                exact Ev.ret rfl rfl (by rw [hQ]; exact ⟨t29, Hhp770, (fr_unmark H Fhp770 PS), bs_anU, sf_S_nil⟩)
                  · skip
                    refine Ev.step (j := 7) (s' := ([some (.int z32)], [.int z32], (0, 0), hp28)) rfl rfl ?_
                    refine bs_lit (k := 57) rfl rfl fun z774 hz774 => ?_
                    refine bs_gt rfl (fun c775 => ?_) (fun c775 => ?_)
                    · skip
                      refine bs_lit (k := 0) rfl rfl fun z776 hz776 => ?_
                      refine bs_zret rfl rfl (by omega) (by omega) ?_
                      rw [← hQ660]
                      refine (show Ev _ 106 ([some (.ref 69), some (.int z32), none, none], [.int z776], (0, 0), hp28) _ from ?_)
                      refine bs_ifne rfl (fun c777 => ?_) (fun c777 => ?_)
                      · exfalso; omega
                      · skip
                        refine Ev.step (j := 110) (s' := ([some (.ref 69), some (.int z32), none, none], [.ref 69], (0, 0), hp28)) rfl rfl ?_
                        refine Ev.step (j := 111) (s' := ([some (.ref 69), some (.int z32), none, none], [.int z32, .ref 69], (0, 0), hp28)) rfl rfl ?_
                        refine bs_lit (k := 59) rfl rfl fun z778 hz778 => ?_
                        refine bs_eq rfl (fun c779 => ?_) (fun c779 => ?_)
                        · skip
                          have c780 : z32.toInt = 59 := by omega
                          refine bs_lit (k := 3) rfl rfl fun z781 hz781 => ?_
                          refine Ev.step (j := 145) (s' := ([some (.ref 69), some (.int z32), none, none], [.int z781, .ref 69], (0, 0), hp28)) rfl rfl ?_
                          refine bs_putI (W := [(11, 11, 11), (999, 0, 0)]) (g := 11) rfl rfl Hhp28 (bs_R.uq Hhp28 (g := 11) rfl) (by decide) rfl rfl rfl rfl (Or.inl rfl) (by omega) (by omega) fun hp782 Hhp782 fhp782 rhp782 ehp782 qhp782 nhp782 => ?_
                          have Fhp782 := sf_fr_tr Fhp28 (sf_fr_wider (W := [(999, 0, 0), (11, 4, 4), (11, 11, 14), (11, 17, 17)]) rfl fhp782)
                          have h783 : sf_rd hp782 69 4 = some y31 := (ehp782 _ _ (Or.inr (by omega))).trans hy31
                          have h784 : sf_rd hp782 69 13 = some (0 : Int) := (ehp782 _ _ (Or.inr (by omega))).trans cy31
                          refine Ev.step (j := 149) (s' := ([some (.ref 69), some (.int z32), none, none], [.ref 69], (0, 0), hp782)) rfl rfl ?_
                          refine Ev.step (j := 150) (s' := ([some (.ref 69), some (.int z32), none, none], [.int z32, .ref 69], (0, 0), hp782)) rfl rfl ?_
                          refine bs_putI (W := [(11, 14, 14)]) (g := 11) rfl rfl Hhp782 (bs_R.uq Hhp782 (g := 11) rfl) (by decide) rfl rfl rfl rfl (Or.inl rfl) (by omega) (by omega) fun hp785 Hhp785 fhp785 rhp785 ehp785 qhp785 nhp785 => ?_
                          have Fhp785 := sf_fr_tr Fhp782 (sf_fr_wider (W := [(999, 0, 0), (11, 4, 4), (11, 11, 14), (11, 17, 17)]) rfl fhp785)
                          have h786 : sf_rd hp785 69 4 = some y31 := (ehp785 _ _ (Or.inr (by omega))).trans h783
                          have h787 : sf_rd hp785 69 13 = some (0 : Int) := (ehp785 _ _ (Or.inr (by omega))).trans h784
                          have h788 : sf_rd hp785 69 11 = some z781.toInt := (ehp785 _ _ (Or.inr (by omega))).trans rhp782
                          refine Ev.step (j := 154) (s' := ([some (.ref 69), some (.int z32), none, none], [.ref 69], (0, 0), hp785)) rfl rfl ?_
                          refine Ev.step (j := 155) (s' := ([some (.ref 69), some (.int z32), none, none], [.ref 69, .ref 69], (0, 0), hp785)) rfl rfl ?_
                          refine bs_getI 11 rfl rfl rfl Hhp785 (bs_R.uq Hhp785 (g := 11) rfl) (by decide) rfl fun z789 hz789 lz789 gz789 => ?_
                          have e790 : z789.toInt = y31 := Option.some.inj (hz789.symm.trans h786)
                          refine bs_lit (k := 1) rfl rfl fun z791 hz791 => ?_
                          first | (refine bs_add rfl (by omega) (by omega) fun z792 hz792 => ?_) | (refine bs_any rfl fun z792 => ?_)
                          have rz792 := n_range z792
                          refine bs_putI (W := [(11, 4, 4), (999, 0, 0)]) (g := 11) rfl rfl Hhp785 (bs_R.uq Hhp785 (g := 11) rfl) (by decide) rfl rfl rfl rfl (Or.inl rfl) (by omega) (by omega) fun hp793 Hhp793 fhp793 rhp793 ehp793 qhp793 nhp793 => ?_
                          have Fhp793 := sf_fr_tr Fhp785 (sf_fr_wider (W := [(999, 0, 0), (11, 4, 4), (11, 11, 14), (11, 17, 17)]) rfl fhp793)
                          have h794 : sf_rd hp793 69 13 = some (0 : Int) := (ehp793 _ _ (Or.inr (by omega))).trans h787
                          have h795 : sf_rd hp793 69 11 = some z781.toInt := (ehp793 _ _ (Or.inr (by omega))).trans h788
                          have h796 : sf_rd hp793 69 14 = some z32.toInt := (ehp793 _ _ (Or.inr (by omega))).trans rhp785
                          have A1 := psi_ge rhp793 h795
                          have A2 := psi_ge Q4 Q11
                          have PS : sf_psi hp793 ≤ sf_psi hp := by omega
                          exact Ev.ret rfl rfl (by rw [hQ]; exact ⟨t29, Hhp793, (fr_unmark H Fhp793 PS), bs_anU, sf_S_nil⟩)
                        · skip
                          refine Ev.step (j := 117) (s' := ([some (.ref 69), some (.int z32), none, none], [.int z32, .ref 69], (0, 0), hp28)) rfl rfl ?_
                          refine bs_lit (k := 40) rfl rfl fun z797 hz797 => ?_
                          refine bs_eq rfl (fun c798 => ?_) (fun c798 => ?_)
                          · skip
                            have c799 : z32.toInt = 40 := by omega
                            refine bs_lit (k := 3) rfl rfl fun z800 hz800 => ?_
                            refine Ev.step (j := 145) (s' := ([some (.ref 69), some (.int z32), none, none], [.int z800, .ref 69], (0, 0), hp28)) rfl rfl ?_
                            refine bs_putI (W := [(11, 11, 11), (999, 0, 0)]) (g := 11) rfl rfl Hhp28 (bs_R.uq Hhp28 (g := 11) rfl) (by decide) rfl rfl rfl rfl (Or.inl rfl) (by omega) (by omega) fun hp801 Hhp801 fhp801 rhp801 ehp801 qhp801 nhp801 => ?_
                            have Fhp801 := sf_fr_tr Fhp28 (sf_fr_wider (W := [(999, 0, 0), (11, 4, 4), (11, 11, 14), (11, 17, 17)]) rfl fhp801)
                            have h802 : sf_rd hp801 69 4 = some y31 := (ehp801 _ _ (Or.inr (by omega))).trans hy31
                            have h803 : sf_rd hp801 69 13 = some (0 : Int) := (ehp801 _ _ (Or.inr (by omega))).trans cy31
                            refine Ev.step (j := 149) (s' := ([some (.ref 69), some (.int z32), none, none], [.ref 69], (0, 0), hp801)) rfl rfl ?_
                            refine Ev.step (j := 150) (s' := ([some (.ref 69), some (.int z32), none, none], [.int z32, .ref 69], (0, 0), hp801)) rfl rfl ?_
                            refine bs_putI (W := [(11, 14, 14)]) (g := 11) rfl rfl Hhp801 (bs_R.uq Hhp801 (g := 11) rfl) (by decide) rfl rfl rfl rfl (Or.inl rfl) (by omega) (by omega) fun hp804 Hhp804 fhp804 rhp804 ehp804 qhp804 nhp804 => ?_
                            have Fhp804 := sf_fr_tr Fhp801 (sf_fr_wider (W := [(999, 0, 0), (11, 4, 4), (11, 11, 14), (11, 17, 17)]) rfl fhp804)
                            have h805 : sf_rd hp804 69 4 = some y31 := (ehp804 _ _ (Or.inr (by omega))).trans h802
                            have h806 : sf_rd hp804 69 13 = some (0 : Int) := (ehp804 _ _ (Or.inr (by omega))).trans h803
                            have h807 : sf_rd hp804 69 11 = some z800.toInt := (ehp804 _ _ (Or.inr (by omega))).trans rhp801
                            refine Ev.step (j := 154) (s' := ([some (.ref 69), some (.int z32), none, none], [.ref 69], (0, 0), hp804)) rfl rfl ?_
                            refine Ev.step (j := 155) (s' := ([some (.ref 69), some (.int z32), none, none], [.ref 69, .ref 69], (0, 0), hp804)) rfl rfl ?_
                            refine bs_getI 11 rfl rfl rfl Hhp804 (bs_R.uq Hhp804 (g := 11) rfl) (by decide) rfl fun z808 hz808 lz808 gz808 => ?_
                            have e809 : z808.toInt = y31 := Option.some.inj (hz808.symm.trans h805)
                            refine bs_lit (k := 1) rfl rfl fun z810 hz810 => ?_
                            first | (refine bs_add rfl (by omega) (by omega) fun z811 hz811 => ?_) | (refine bs_any rfl fun z811 => ?_)
                            have rz811 := n_range z811
                            refine bs_putI (W := [(11, 4, 4), (999, 0, 0)]) (g := 11) rfl rfl Hhp804 (bs_R.uq Hhp804 (g := 11) rfl) (by decide) rfl rfl rfl rfl (Or.inl rfl) (by omega) (by omega) fun hp812 Hhp812 fhp812 rhp812 ehp812 qhp812 nhp812 => ?_
                            have Fhp812 := sf_fr_tr Fhp804 (sf_fr_wider (W := [(999, 0, 0), (11, 4, 4), (11, 11, 14), (11, 17, 17)]) rfl fhp812)
                            have h813 : sf_rd hp812 69 13 = some (0 : Int) := (ehp812 _ _ (Or.inr (by omega))).trans h806
                            have h814 : sf_rd hp812 69 11 = some z800.toInt := (ehp812 _ _ (Or.inr (by omega))).trans h807
                            have h815 : sf_rd hp812 69 14 = some z32.toInt := (ehp812 _ _ (Or.inr (by omega))).trans rhp804
                            have A1 := psi_ge rhp812 h814
                            have A2 := psi_ge Q4 Q11
                            have PS : sf_psi hp812 ≤ sf_psi hp := by omega
                            exact Ev.ret rfl rfl (by rw [hQ]; exact ⟨t29, Hhp812, (fr_unmark H Fhp812 PS), bs_anU, sf_S_nil⟩)
                          · skip
                            refine Ev.step (j := 123) (s' := ([some (.ref 69), some (.int z32), none, none], [.int z32, .ref 69], (0, 0), hp28)) rfl rfl ?_
                            refine bs_lit (k := 41) rfl rfl fun z816 hz816 => ?_
                            refine bs_eq rfl (fun c817 => ?_) (fun c817 => ?_)
                            · skip
                              have c818 : z32.toInt = 41 := by omega
                              refine bs_lit (k := 3) rfl rfl fun z819 hz819 => ?_
                              refine Ev.step (j := 145) (s' := ([some (.ref 69), some (.int z32), none, none], [.int z819, .ref 69], (0, 0), hp28)) rfl rfl ?_
                              refine bs_putI (W := [(11, 11, 11), (999, 0, 0)]) (g := 11) rfl rfl Hhp28 (bs_R.uq Hhp28 (g := 11) rfl) (by decide) rfl rfl rfl rfl (Or.inl rfl) (by omega) (by omega) fun hp820 Hhp820 fhp820 rhp820 ehp820 qhp820 nhp820 => ?_
                              have Fhp820 := sf_fr_tr Fhp28 (sf_fr_wider (W := [(999, 0, 0), (11, 4, 4), (11, 11, 14), (11, 17, 17)]) rfl fhp820)
                              have h821 : sf_rd hp820 69 4 = some y31 := (ehp820 _ _ (Or.inr (by omega))).trans hy31
                              have h822 : sf_rd hp820 69 13 = some (0 : Int) := (ehp820 _ _ (Or.inr (by omega))).trans cy31
                              refine Ev.step (j := 149) (s' := ([some (.ref 69), some (.int z32), none, none], [.ref 69], (0, 0), hp820)) rfl rfl ?_
                              refine Ev.step (j := 150) (s' := ([some (.ref 69), some (.int z32), none, none], [.int z32, .ref 69], (0, 0), hp820)) rfl rfl ?_
                              refine bs_putI (W := [(11, 14, 14)]) (g := 11) rfl rfl Hhp820 (bs_R.uq Hhp820 (g := 11) rfl) (by decide) rfl rfl rfl rfl (Or.inl rfl) (by omega) (by omega) fun hp823 Hhp823 fhp823 rhp823 ehp823 qhp823 nhp823 => ?_
                              have Fhp823 := sf_fr_tr Fhp820 (sf_fr_wider (W := [(999, 0, 0), (11, 4, 4), (11, 11, 14), (11, 17, 17)]) rfl fhp823)
                              have h824 : sf_rd hp823 69 4 = some y31 := (ehp823 _ _ (Or.inr (by omega))).trans h821
                              have h825 : sf_rd hp823 69 13 = some (0 : Int) := (ehp823 _ _ (Or.inr (by omega))).trans h822
                              have h826 : sf_rd hp823 69 11 = some z819.toInt := (ehp823 _ _ (Or.inr (by omega))).trans rhp820
                              refine Ev.step (j := 154) (s' := ([some (.ref 69), some (.int z32), none, none], [.ref 69], (0, 0), hp823)) rfl rfl ?_
                              refine Ev.step (j := 155) (s' := ([some (.ref 69), some (.int z32), none, none], [.ref 69, .ref 69], (0, 0), hp823)) rfl rfl ?_
                              refine bs_getI 11 rfl rfl rfl Hhp823 (bs_R.uq Hhp823 (g := 11) rfl) (by decide) rfl fun z827 hz827 lz827 gz827 => ?_
                              have e828 : z827.toInt = y31 := Option.some.inj (hz827.symm.trans h824)
                              refine bs_lit (k := 1) rfl rfl fun z829 hz829 => ?_
                              first | (refine bs_add rfl (by omega) (by omega) fun z830 hz830 => ?_) | (refine bs_any rfl fun z830 => ?_)
                              have rz830 := n_range z830
                              refine bs_putI (W := [(11, 4, 4), (999, 0, 0)]) (g := 11) rfl rfl Hhp823 (bs_R.uq Hhp823 (g := 11) rfl) (by decide) rfl rfl rfl rfl (Or.inl rfl) (by omega) (by omega) fun hp831 Hhp831 fhp831 rhp831 ehp831 qhp831 nhp831 => ?_
                              have Fhp831 := sf_fr_tr Fhp823 (sf_fr_wider (W := [(999, 0, 0), (11, 4, 4), (11, 11, 14), (11, 17, 17)]) rfl fhp831)
                              have h832 : sf_rd hp831 69 13 = some (0 : Int) := (ehp831 _ _ (Or.inr (by omega))).trans h825
                              have h833 : sf_rd hp831 69 11 = some z819.toInt := (ehp831 _ _ (Or.inr (by omega))).trans h826
                              have h834 : sf_rd hp831 69 14 = some z32.toInt := (ehp831 _ _ (Or.inr (by omega))).trans rhp823
                              have A1 := psi_ge rhp831 h833
                              have A2 := psi_ge Q4 Q11
                              have PS : sf_psi hp831 ≤ sf_psi hp := by omega
                              exact Ev.ret rfl rfl (by rw [hQ]; exact ⟨t29, Hhp831, (fr_unmark H Fhp831 PS), bs_anU, sf_S_nil⟩)
                            · skip
                              refine Ev.step (j := 129) (s' := ([some (.ref 69), some (.int z32), none, none], [.int z32, .ref 69], (0, 0), hp28)) rfl rfl ?_
                              refine bs_lit (k := 60) rfl rfl fun z835 hz835 => ?_
                              refine bs_lt rfl (fun c836 => ?_) (fun c836 => ?_)
                              · skip
                                refine bs_lit (k := 4) rfl rfl fun z837 hz837 => ?_
                                refine bs_putI (W := [(11, 11, 11), (999, 0, 0)]) (g := 11) rfl rfl Hhp28 (bs_R.uq Hhp28 (g := 11) rfl) (by decide) rfl rfl rfl rfl (Or.inl rfl) (by omega) (by omega) fun hp838 Hhp838 fhp838 rhp838 ehp838 qhp838 nhp838 => ?_
                                have Fhp838 := sf_fr_tr Fhp28 (sf_fr_wider (W := [(999, 0, 0), (11, 4, 4), (11, 11, 14), (11, 17, 17)]) rfl fhp838)
                                have h839 : sf_rd hp838 69 4 = some y31 := (ehp838 _ _ (Or.inr (by omega))).trans hy31
                                have h840 : sf_rd hp838 69 13 = some (0 : Int) := (ehp838 _ _ (Or.inr (by omega))).trans cy31
                                refine Ev.step (j := 149) (s' := ([some (.ref 69), some (.int z32), none, none], [.ref 69], (0, 0), hp838)) rfl rfl ?_
                                refine Ev.step (j := 150) (s' := ([some (.ref 69), some (.int z32), none, none], [.int z32, .ref 69], (0, 0), hp838)) rfl rfl ?_
                                refine bs_putI (W := [(11, 14, 14)]) (g := 11) rfl rfl Hhp838 (bs_R.uq Hhp838 (g := 11) rfl) (by decide) rfl rfl rfl rfl (Or.inl rfl) (by omega) (by omega) fun hp841 Hhp841 fhp841 rhp841 ehp841 qhp841 nhp841 => ?_
                                have Fhp841 := sf_fr_tr Fhp838 (sf_fr_wider (W := [(999, 0, 0), (11, 4, 4), (11, 11, 14), (11, 17, 17)]) rfl fhp841)
                                have h842 : sf_rd hp841 69 4 = some y31 := (ehp841 _ _ (Or.inr (by omega))).trans h839
                                have h843 : sf_rd hp841 69 13 = some (0 : Int) := (ehp841 _ _ (Or.inr (by omega))).trans h840
                                have h844 : sf_rd hp841 69 11 = some z837.toInt := (ehp841 _ _ (Or.inr (by omega))).trans rhp838
                                refine Ev.step (j := 154) (s' := ([some (.ref 69), some (.int z32), none, none], [.ref 69], (0, 0), hp841)) rfl rfl ?_
                                refine Ev.step (j := 155) (s' := ([some (.ref 69), some (.int z32), none, none], [.ref 69, .ref 69], (0, 0), hp841)) rfl rfl ?_
                                refine bs_getI 11 rfl rfl rfl Hhp841 (bs_R.uq Hhp841 (g := 11) rfl) (by decide) rfl fun z845 hz845 lz845 gz845 => ?_
                                have e846 : z845.toInt = y31 := Option.some.inj (hz845.symm.trans h842)
                                refine bs_lit (k := 1) rfl rfl fun z847 hz847 => ?_
                                first | (refine bs_add rfl (by omega) (by omega) fun z848 hz848 => ?_) | (refine bs_any rfl fun z848 => ?_)
                                have rz848 := n_range z848
                                refine bs_putI (W := [(11, 4, 4), (999, 0, 0)]) (g := 11) rfl rfl Hhp841 (bs_R.uq Hhp841 (g := 11) rfl) (by decide) rfl rfl rfl rfl (Or.inl rfl) (by omega) (by omega) fun hp849 Hhp849 fhp849 rhp849 ehp849 qhp849 nhp849 => ?_
                                have Fhp849 := sf_fr_tr Fhp841 (sf_fr_wider (W := [(999, 0, 0), (11, 4, 4), (11, 11, 14), (11, 17, 17)]) rfl fhp849)
                                have h850 : sf_rd hp849 69 13 = some (0 : Int) := (ehp849 _ _ (Or.inr (by omega))).trans h843
                                have h851 : sf_rd hp849 69 11 = some z837.toInt := (ehp849 _ _ (Or.inr (by omega))).trans h844
                                have h852 : sf_rd hp849 69 14 = some z32.toInt := (ehp849 _ _ (Or.inr (by omega))).trans rhp841
                                have A1 := psi_ge rhp849 h851
                                have A2 := psi_ge Q4 Q11
                                have PS : sf_psi hp849 ≤ sf_psi hp := by omega
                                exact Ev.ret rfl rfl (by rw [hQ]; exact ⟨t29, Hhp849, (fr_unmark H Fhp849 PS), bs_anU, sf_S_nil⟩)
                              · skip
                                refine Ev.step (j := 135) (s' := ([some (.ref 69), some (.int z32), none, none], [.int z32, .ref 69], (0, 0), hp28)) rfl rfl ?_
                                refine bs_lit (k := 62) rfl rfl fun z853 hz853 => ?_
                                refine bs_gt rfl (fun c854 => ?_) (fun c854 => ?_)
                                · skip
                                  refine bs_lit (k := 4) rfl rfl fun z855 hz855 => ?_
                                  refine bs_putI (W := [(11, 11, 11), (999, 0, 0)]) (g := 11) rfl rfl Hhp28 (bs_R.uq Hhp28 (g := 11) rfl) (by decide) rfl rfl rfl rfl (Or.inl rfl) (by omega) (by omega) fun hp856 Hhp856 fhp856 rhp856 ehp856 qhp856 nhp856 => ?_
                                  have Fhp856 := sf_fr_tr Fhp28 (sf_fr_wider (W := [(999, 0, 0), (11, 4, 4), (11, 11, 14), (11, 17, 17)]) rfl fhp856)
                                  have h857 : sf_rd hp856 69 4 = some y31 := (ehp856 _ _ (Or.inr (by omega))).trans hy31
                                  have h858 : sf_rd hp856 69 13 = some (0 : Int) := (ehp856 _ _ (Or.inr (by omega))).trans cy31
                                  refine Ev.step (j := 149) (s' := ([some (.ref 69), some (.int z32), none, none], [.ref 69], (0, 0), hp856)) rfl rfl ?_
                                  refine Ev.step (j := 150) (s' := ([some (.ref 69), some (.int z32), none, none], [.int z32, .ref 69], (0, 0), hp856)) rfl rfl ?_
                                  refine bs_putI (W := [(11, 14, 14)]) (g := 11) rfl rfl Hhp856 (bs_R.uq Hhp856 (g := 11) rfl) (by decide) rfl rfl rfl rfl (Or.inl rfl) (by omega) (by omega) fun hp859 Hhp859 fhp859 rhp859 ehp859 qhp859 nhp859 => ?_
                                  have Fhp859 := sf_fr_tr Fhp856 (sf_fr_wider (W := [(999, 0, 0), (11, 4, 4), (11, 11, 14), (11, 17, 17)]) rfl fhp859)
                                  have h860 : sf_rd hp859 69 4 = some y31 := (ehp859 _ _ (Or.inr (by omega))).trans h857
                                  have h861 : sf_rd hp859 69 13 = some (0 : Int) := (ehp859 _ _ (Or.inr (by omega))).trans h858
                                  have h862 : sf_rd hp859 69 11 = some z855.toInt := (ehp859 _ _ (Or.inr (by omega))).trans rhp856
                                  refine Ev.step (j := 154) (s' := ([some (.ref 69), some (.int z32), none, none], [.ref 69], (0, 0), hp859)) rfl rfl ?_
                                  refine Ev.step (j := 155) (s' := ([some (.ref 69), some (.int z32), none, none], [.ref 69, .ref 69], (0, 0), hp859)) rfl rfl ?_
                                  refine bs_getI 11 rfl rfl rfl Hhp859 (bs_R.uq Hhp859 (g := 11) rfl) (by decide) rfl fun z863 hz863 lz863 gz863 => ?_
                                  have e864 : z863.toInt = y31 := Option.some.inj (hz863.symm.trans h860)
                                  refine bs_lit (k := 1) rfl rfl fun z865 hz865 => ?_
                                  first | (refine bs_add rfl (by omega) (by omega) fun z866 hz866 => ?_) | (refine bs_any rfl fun z866 => ?_)
                                  have rz866 := n_range z866
                                  refine bs_putI (W := [(11, 4, 4), (999, 0, 0)]) (g := 11) rfl rfl Hhp859 (bs_R.uq Hhp859 (g := 11) rfl) (by decide) rfl rfl rfl rfl (Or.inl rfl) (by omega) (by omega) fun hp867 Hhp867 fhp867 rhp867 ehp867 qhp867 nhp867 => ?_
                                  have Fhp867 := sf_fr_tr Fhp859 (sf_fr_wider (W := [(999, 0, 0), (11, 4, 4), (11, 11, 14), (11, 17, 17)]) rfl fhp867)
                                  have h868 : sf_rd hp867 69 13 = some (0 : Int) := (ehp867 _ _ (Or.inr (by omega))).trans h861
                                  have h869 : sf_rd hp867 69 11 = some z855.toInt := (ehp867 _ _ (Or.inr (by omega))).trans h862
                                  have h870 : sf_rd hp867 69 14 = some z32.toInt := (ehp867 _ _ (Or.inr (by omega))).trans rhp859
                                  have A1 := psi_ge rhp867 h869
                                  have A2 := psi_ge Q4 Q11
                                  have PS : sf_psi hp867 ≤ sf_psi hp := by omega
                                  exact Ev.ret rfl rfl (by rw [hQ]; exact ⟨t29, Hhp867, (fr_unmark H Fhp867 PS), bs_anU, sf_S_nil⟩)
                                · skip
                                  refine bs_lit (k := 3) rfl rfl fun z871 hz871 => ?_
                                  refine Ev.step (j := 145) (s' := ([some (.ref 69), some (.int z32), none, none], [.int z871, .ref 69], (0, 0), hp28)) rfl rfl ?_
                                  refine bs_putI (W := [(11, 11, 11), (999, 0, 0)]) (g := 11) rfl rfl Hhp28 (bs_R.uq Hhp28 (g := 11) rfl) (by decide) rfl rfl rfl rfl (Or.inl rfl) (by omega) (by omega) fun hp872 Hhp872 fhp872 rhp872 ehp872 qhp872 nhp872 => ?_
                                  have Fhp872 := sf_fr_tr Fhp28 (sf_fr_wider (W := [(999, 0, 0), (11, 4, 4), (11, 11, 14), (11, 17, 17)]) rfl fhp872)
                                  have h873 : sf_rd hp872 69 4 = some y31 := (ehp872 _ _ (Or.inr (by omega))).trans hy31
                                  have h874 : sf_rd hp872 69 13 = some (0 : Int) := (ehp872 _ _ (Or.inr (by omega))).trans cy31
                                  refine Ev.step (j := 149) (s' := ([some (.ref 69), some (.int z32), none, none], [.ref 69], (0, 0), hp872)) rfl rfl ?_
                                  refine Ev.step (j := 150) (s' := ([some (.ref 69), some (.int z32), none, none], [.int z32, .ref 69], (0, 0), hp872)) rfl rfl ?_
                                  refine bs_putI (W := [(11, 14, 14)]) (g := 11) rfl rfl Hhp872 (bs_R.uq Hhp872 (g := 11) rfl) (by decide) rfl rfl rfl rfl (Or.inl rfl) (by omega) (by omega) fun hp875 Hhp875 fhp875 rhp875 ehp875 qhp875 nhp875 => ?_
                                  have Fhp875 := sf_fr_tr Fhp872 (sf_fr_wider (W := [(999, 0, 0), (11, 4, 4), (11, 11, 14), (11, 17, 17)]) rfl fhp875)
                                  have h876 : sf_rd hp875 69 4 = some y31 := (ehp875 _ _ (Or.inr (by omega))).trans h873
                                  have h877 : sf_rd hp875 69 13 = some (0 : Int) := (ehp875 _ _ (Or.inr (by omega))).trans h874
                                  have h878 : sf_rd hp875 69 11 = some z871.toInt := (ehp875 _ _ (Or.inr (by omega))).trans rhp872
                                  refine Ev.step (j := 154) (s' := ([some (.ref 69), some (.int z32), none, none], [.ref 69], (0, 0), hp875)) rfl rfl ?_
                                  refine Ev.step (j := 155) (s' := ([some (.ref 69), some (.int z32), none, none], [.ref 69, .ref 69], (0, 0), hp875)) rfl rfl ?_
                                  refine bs_getI 11 rfl rfl rfl Hhp875 (bs_R.uq Hhp875 (g := 11) rfl) (by decide) rfl fun z879 hz879 lz879 gz879 => ?_
                                  have e880 : z879.toInt = y31 := Option.some.inj (hz879.symm.trans h876)
                                  refine bs_lit (k := 1) rfl rfl fun z881 hz881 => ?_
                                  first | (refine bs_add rfl (by omega) (by omega) fun z882 hz882 => ?_) | (refine bs_any rfl fun z882 => ?_)
                                  have rz882 := n_range z882
                                  refine bs_putI (W := [(11, 4, 4), (999, 0, 0)]) (g := 11) rfl rfl Hhp875 (bs_R.uq Hhp875 (g := 11) rfl) (by decide) rfl rfl rfl rfl (Or.inl rfl) (by omega) (by omega) fun hp883 Hhp883 fhp883 rhp883 ehp883 qhp883 nhp883 => ?_
                                  have Fhp883 := sf_fr_tr Fhp875 (sf_fr_wider (W := [(999, 0, 0), (11, 4, 4), (11, 11, 14), (11, 17, 17)]) rfl fhp883)
                                  have h884 : sf_rd hp883 69 13 = some (0 : Int) := (ehp883 _ _ (Or.inr (by omega))).trans h877
                                  have h885 : sf_rd hp883 69 11 = some z871.toInt := (ehp883 _ _ (Or.inr (by omega))).trans h878
                                  have h886 : sf_rd hp883 69 14 = some z32.toInt := (ehp883 _ _ (Or.inr (by omega))).trans rhp875
                                  have A1 := psi_ge rhp883 h885
                                  have A2 := psi_ge Q4 Q11
                                  have PS : sf_psi hp883 ≤ sf_psi hp := by omega
                                  exact Ev.ret rfl rfl (by rw [hQ]; exact ⟨t29, Hhp883, (fr_unmark H Fhp883 PS), bs_anU, sf_S_nil⟩)
                    · skip
                      refine bs_lit (k := 1) rfl rfl fun z887 hz887 => ?_
                      refine Ev.step (j := 17) (s' := ([some (.int z32)], [.int z887], (0, 0), hp28)) rfl rfl ?_
                      refine bs_zret rfl rfl (by omega) (by omega) ?_
                      rw [← hQ660]
                      refine (show Ev _ 106 ([some (.ref 69), some (.int z32), none, none], [.int z887], (0, 0), hp28) _ from ?_)
                      refine bs_ifne rfl (fun c888 => ?_) (fun c888 => ?_)
                      · skip
                        refine Ev.step (j := 165) (s' := ([some (.ref 69), some (.int z32), none, none], [.int z32], (0, 0), hp28)) rfl rfl ?_
                        refine Ev.inlS (L := L_X11_isSmall) (nL := 1) rfl rfl (Nat.le_of_ble_eq_true rfl) ?_
                        generalize hQ889 : (fun (o : ab_O) => Ev _ _ _ _) = Q889
                        refine (show Ev (ab_T L_X11_isSmall) 0 ([some (.int z32)], [], (0, 0), hp28) Q889 from ?_)
                        refine Ev.step (j := 1) (s' := ([some (.int z32)], [.int z32], (0, 0), hp28)) rfl rfl ?_
                        refine bs_lit (k := 97) rfl rfl fun z890 hz890 => ?_
                        refine bs_lt rfl (fun c891 => ?_) (fun c891 => ?_)
                        · skip
                          refine bs_lit (k := 0) rfl rfl fun z892 hz892 => ?_
                          refine bs_zret rfl rfl (by omega) (by omega) ?_
                          rw [← hQ889]
                          refine (show Ev _ 168 ([some (.ref 69), some (.int z32), none, none], [.int z892], (0, 0), hp28) _ from ?_)
                          refine Ev.step (j := 169) (s' := ([some (.ref 69), some (.int z32), some (.int z892), none], [], (0, 0), hp28)) rfl rfl ?_
                          refine bs_lit (k := 1) rfl rfl fun z893 hz893 => ?_
                          have INV : ∃ v : Int, sf_rd hp28 69 4 = some v ∧ sf_rd hp28 69 13 = some 0 ∧ P0 ≤ v ∧ v ≤ 940 ∧ ((48 ≤ z32.toInt ∧ z32.toInt ≤ 57) ∨ (97 ≤ z32.toInt ∧ z32.toInt ≤ 122)) ∧ pkR hp28 z32 := ⟨_, hy31, cy31, by omega, by omega, by omega, pz32⟩
                          refine Ev.step (j := 171) (s' := ([some (.ref 69), some (.int z32), some (.int z892), some (.int z893)], [], (0, 0), hp28)) rfl rfl ?_
                          exact cut34 z892 z893 hp28 t29 Hhp28 Fhp28 (by exact INV) (by first | omega | assumption)
                        · skip
                          refine Ev.step (j := 7) (s' := ([some (.int z32)], [.int z32], (0, 0), hp28)) rfl rfl ?_
                          refine bs_lit (k := 122) rfl rfl fun z894 hz894 => ?_
                          refine bs_gt rfl (fun c895 => ?_) (fun c895 => ?_)
                          · skip
                            refine bs_lit (k := 0) rfl rfl fun z896 hz896 => ?_
                            refine bs_zret rfl rfl (by omega) (by omega) ?_
                            rw [← hQ889]
                            refine (show Ev _ 168 ([some (.ref 69), some (.int z32), none, none], [.int z896], (0, 0), hp28) _ from ?_)
                            refine Ev.step (j := 169) (s' := ([some (.ref 69), some (.int z32), some (.int z896), none], [], (0, 0), hp28)) rfl rfl ?_
                            refine bs_lit (k := 1) rfl rfl fun z897 hz897 => ?_
                            have INV : ∃ v : Int, sf_rd hp28 69 4 = some v ∧ sf_rd hp28 69 13 = some 0 ∧ P0 ≤ v ∧ v ≤ 940 ∧ ((48 ≤ z32.toInt ∧ z32.toInt ≤ 57) ∨ (97 ≤ z32.toInt ∧ z32.toInt ≤ 122)) ∧ pkR hp28 z32 := ⟨_, hy31, cy31, by omega, by omega, by omega, pz32⟩
                            refine Ev.step (j := 171) (s' := ([some (.ref 69), some (.int z32), some (.int z896), some (.int z897)], [], (0, 0), hp28)) rfl rfl ?_
                            exact cut34 z896 z897 hp28 t29 Hhp28 Fhp28 (by exact INV) (by first | omega | assumption)
                          · skip
                            refine bs_lit (k := 1) rfl rfl fun z898 hz898 => ?_
                            refine Ev.step (j := 17) (s' := ([some (.int z32)], [.int z898], (0, 0), hp28)) rfl rfl ?_
                            refine bs_zret rfl rfl (by omega) (by omega) ?_
                            rw [← hQ889]
                            refine (show Ev _ 168 ([some (.ref 69), some (.int z32), none, none], [.int z898], (0, 0), hp28) _ from ?_)
                            refine Ev.step (j := 169) (s' := ([some (.ref 69), some (.int z32), some (.int z898), none], [], (0, 0), hp28)) rfl rfl ?_
                            refine bs_lit (k := 1) rfl rfl fun z899 hz899 => ?_
                            have INV : ∃ v : Int, sf_rd hp28 69 4 = some v ∧ sf_rd hp28 69 13 = some 0 ∧ P0 ≤ v ∧ v ≤ 940 ∧ ((48 ≤ z32.toInt ∧ z32.toInt ≤ 57) ∨ (97 ≤ z32.toInt ∧ z32.toInt ≤ 122)) ∧ pkR hp28 z32 := ⟨_, hy31, cy31, by omega, by omega, by omega, pz32⟩
                            refine Ev.step (j := 171) (s' := ([some (.ref 69), some (.int z32), some (.int z898), some (.int z899)], [], (0, 0), hp28)) rfl rfl ?_
                            exact cut34 z898 z899 hp28 t29 Hhp28 Fhp28 (by exact INV) (by first | omega | assumption)
                      · exfalso; omega
              · skip
                refine bs_lit (k := 1) rfl rfl fun z900 hz900 => ?_
                refine Ev.step (j := 17) (s' := ([some (.int z32)], [.int z900], (0, 0), hp28)) rfl rfl ?_
                refine bs_zret rfl rfl (by omega) (by omega) ?_
                rw [← hQ411]
                refine (show Ev _ 99 ([some (.ref 69), some (.int z32), none, none], [.int z900], (0, 0), hp28) _ from ?_)
                refine bs_ifne rfl (fun c901 => ?_) (fun c901 => ?_)
                · skip
                  refine Ev.step (j := 165) (s' := ([some (.ref 69), some (.int z32), none, none], [.int z32], (0, 0), hp28)) rfl rfl ?_
                  refine Ev.inlS (L := L_X11_isSmall) (nL := 1) rfl rfl (Nat.le_of_ble_eq_true rfl) ?_
                  generalize hQ902 : (fun (o : ab_O) => Ev _ _ _ _) = Q902
                  refine (show Ev (ab_T L_X11_isSmall) 0 ([some (.int z32)], [], (0, 0), hp28) Q902 from ?_)
                  refine Ev.step (j := 1) (s' := ([some (.int z32)], [.int z32], (0, 0), hp28)) rfl rfl ?_
                  refine bs_lit (k := 97) rfl rfl fun z903 hz903 => ?_
                  refine bs_lt rfl (fun c904 => ?_) (fun c904 => ?_)
                  · skip
                    refine bs_lit (k := 0) rfl rfl fun z905 hz905 => ?_
                    refine bs_zret rfl rfl (by omega) (by omega) ?_
                    rw [← hQ902]
                    refine (show Ev _ 168 ([some (.ref 69), some (.int z32), none, none], [.int z905], (0, 0), hp28) _ from ?_)
                    refine Ev.step (j := 169) (s' := ([some (.ref 69), some (.int z32), some (.int z905), none], [], (0, 0), hp28)) rfl rfl ?_
                    refine bs_lit (k := 1) rfl rfl fun z906 hz906 => ?_
                    have INV : ∃ v : Int, sf_rd hp28 69 4 = some v ∧ sf_rd hp28 69 13 = some 0 ∧ P0 ≤ v ∧ v ≤ 940 ∧ ((48 ≤ z32.toInt ∧ z32.toInt ≤ 57) ∨ (97 ≤ z32.toInt ∧ z32.toInt ≤ 122)) ∧ pkR hp28 z32 := ⟨_, hy31, cy31, by omega, by omega, by omega, pz32⟩
                    refine Ev.step (j := 171) (s' := ([some (.ref 69), some (.int z32), some (.int z905), some (.int z906)], [], (0, 0), hp28)) rfl rfl ?_
                    exact cut34 z905 z906 hp28 t29 Hhp28 Fhp28 (by exact INV) (by first | omega | assumption)
                  · skip
                    refine Ev.step (j := 7) (s' := ([some (.int z32)], [.int z32], (0, 0), hp28)) rfl rfl ?_
                    refine bs_lit (k := 122) rfl rfl fun z907 hz907 => ?_
                    refine bs_gt rfl (fun c908 => ?_) (fun c908 => ?_)
                    · skip
                      refine bs_lit (k := 0) rfl rfl fun z909 hz909 => ?_
                      refine bs_zret rfl rfl (by omega) (by omega) ?_
                      rw [← hQ902]
                      refine (show Ev _ 168 ([some (.ref 69), some (.int z32), none, none], [.int z909], (0, 0), hp28) _ from ?_)
                      refine Ev.step (j := 169) (s' := ([some (.ref 69), some (.int z32), some (.int z909), none], [], (0, 0), hp28)) rfl rfl ?_
                      refine bs_lit (k := 1) rfl rfl fun z910 hz910 => ?_
                      have INV : ∃ v : Int, sf_rd hp28 69 4 = some v ∧ sf_rd hp28 69 13 = some 0 ∧ P0 ≤ v ∧ v ≤ 940 ∧ ((48 ≤ z32.toInt ∧ z32.toInt ≤ 57) ∨ (97 ≤ z32.toInt ∧ z32.toInt ≤ 122)) ∧ pkR hp28 z32 := ⟨_, hy31, cy31, by omega, by omega, by omega, pz32⟩
                      refine Ev.step (j := 171) (s' := ([some (.ref 69), some (.int z32), some (.int z909), some (.int z910)], [], (0, 0), hp28)) rfl rfl ?_
                      exact cut34 z909 z910 hp28 t29 Hhp28 Fhp28 (by exact INV) (by first | omega | assumption)
                    · skip
                      refine bs_lit (k := 1) rfl rfl fun z911 hz911 => ?_
                      refine Ev.step (j := 17) (s' := ([some (.int z32)], [.int z911], (0, 0), hp28)) rfl rfl ?_
                      refine bs_zret rfl rfl (by omega) (by omega) ?_
                      rw [← hQ902]
                      refine (show Ev _ 168 ([some (.ref 69), some (.int z32), none, none], [.int z911], (0, 0), hp28) _ from ?_)
                      refine Ev.step (j := 169) (s' := ([some (.ref 69), some (.int z32), some (.int z911), none], [], (0, 0), hp28)) rfl rfl ?_
                      refine bs_lit (k := 1) rfl rfl fun z912 hz912 => ?_
                      have INV : ∃ v : Int, sf_rd hp28 69 4 = some v ∧ sf_rd hp28 69 13 = some 0 ∧ P0 ≤ v ∧ v ≤ 940 ∧ ((48 ≤ z32.toInt ∧ z32.toInt ≤ 57) ∨ (97 ≤ z32.toInt ∧ z32.toInt ≤ 122)) ∧ pkR hp28 z32 := ⟨_, hy31, cy31, by omega, by omega, by omega, pz32⟩
                      refine Ev.step (j := 171) (s' := ([some (.ref 69), some (.int z32), some (.int z911), some (.int z912)], [], (0, 0), hp28)) rfl rfl ?_
                      exact cut34 z911 z912 hp28 t29 Hhp28 Fhp28 (by exact INV) (by first | omega | assumption)
                · exfalso; omega
          · skip
            refine Ev.step (j := 90) (s' := ([some (.ref 69), some (.int z32), none, none], [.ref 69], (0, 0), hp28)) rfl rfl ?_
            refine bs_lit (k := 0) rfl rfl fun z913 hz913 => ?_
            refine bs_putI (W := [(11, 11, 11), (999, 0, 0)]) (g := 11) rfl rfl Hhp28 (bs_R.uq Hhp28 (g := 11) rfl) (by decide) rfl rfl rfl rfl (Or.inl rfl) (by omega) (by omega) fun hp914 Hhp914 fhp914 rhp914 ehp914 qhp914 nhp914 => ?_
            have Fhp914 := sf_fr_tr Fhp28 (sf_fr_wider (W := [(999, 0, 0), (11, 4, 4), (11, 11, 14), (11, 17, 17)]) rfl fhp914)
            have h915 : sf_rd hp914 69 4 = some y31 := (ehp914 _ _ (Or.inr (by omega))).trans hy31
            have h916 : sf_rd hp914 69 13 = some (0 : Int) := (ehp914 _ _ (Or.inr (by omega))).trans cy31
            have A1 := psi_ge h915 rhp914
            have A2 := psi_ge Q4 Q11
            have PS : sf_psi hp914 ≤ sf_psi hp := by omega
            exact Ev.ret rfl rfl (by rw [hQ]; exact ⟨t29, Hhp914, (fr_unmark H Fhp914 PS), bs_anU, sf_S_nil⟩)
        refine Ev.step (j := 45) (s' := ([some (.ref 69), none, none, none], [.ref 69], (0, 0), hp24)) rfl rfl ?_
        refine bs_getI 11 rfl rfl rfl Hhp24 (bs_R.uq Hhp24 (g := 11) rfl) (by decide) rfl fun z917 hz917 lz917 gz917 => ?_
        refine Ev.step (j := 49) (s' := ([some (.ref 69), none, none, none], [.ref 69, .int z917], (0, 0), hp24)) rfl rfl ?_
        refine bs_getI 11 rfl rfl rfl Hhp24 (bs_R.uq Hhp24 (g := 11) rfl) (by decide) rfl fun z918 hz918 lz918 gz918 => ?_
        have INV : ∃ v : Int, sf_rd hp24 69 4 = some v ∧ sf_rd hp24 69 13 = some 0 ∧ P0 ≤ v ∧ v ≤ 940 := ⟨_, h25, by rw [rhp24]; congr 1, by omega, by omega⟩
        refine bs_le rfl (fun c919 => ?_) (fun c919 => ?_)
        · skip
          exact cut27 hp24 t2 Hhp24 Fhp24 (by exact INV)
        · skip
          refine Ev.step (j := 56) (s' := ([some (.ref 69), none, none, none], [.ref 69], (0, 0), hp24)) rfl rfl ?_
          refine bs_getI 11 rfl rfl rfl Hhp24 (bs_R.uq Hhp24 (g := 11) rfl) (by decide) rfl fun z920 hz920 lz920 gz920 => ?_
          have e921 : z920.toInt = y5 := Option.some.inj (hz920.symm.trans h25)
          refine Ev.step (j := 60) (s' := ([some (.ref 69), none, none, none], [.ref 69, .int z920], (0, 0), hp24)) rfl rfl ?_
          refine bs_getI 11 rfl rfl rfl Hhp24 (bs_R.uq Hhp24 (g := 11) rfl) (by decide) rfl fun z922 hz922 lz922 gz922 => ?_
          have e923 : z922.toInt = z918.toInt := Option.some.inj (hz922.symm.trans hz918)
          refine bs_lt rfl (fun c924 => ?_) (fun c924 => ?_)
          · skip
            exact cut27 hp24 t2 Hhp24 Fhp24 (by exact INV)
          · skip
            refine Ev.step (j := 67) (s' := ([some (.ref 69), none, none, none], [.ref 69], (0, 0), hp24)) rfl rfl ?_
            refine Ev.step (j := 68) (s' := ([some (.ref 69), none, none, none], [.ref 69, .ref 69], (0, 0), hp24)) rfl rfl ?_
            refine bs_getI 11 rfl rfl rfl Hhp24 (bs_R.uq Hhp24 (g := 11) rfl) (by decide) rfl fun z925 hz925 lz925 gz925 => ?_
            have e926 : z925.toInt = z918.toInt := Option.some.inj (hz925.symm.trans hz918)
            refine bs_putI (W := [(11, 12, 12)]) (g := 11) rfl rfl Hhp24 (bs_R.uq Hhp24 (g := 11) rfl) (by decide) rfl rfl rfl rfl (Or.inl rfl) (by omega) (by omega) fun hp927 Hhp927 fhp927 rhp927 ehp927 qhp927 nhp927 => ?_
            have Fhp927 := sf_fr_tr Fhp24 (sf_fr_wider (W := [(999, 0, 0), (11, 4, 4), (11, 11, 14), (11, 17, 17)]) rfl fhp927)
            have h928 : sf_rd hp927 69 4 = some y5 := (ehp927 _ _ (Or.inr (by omega))).trans h25
            have h929 : sf_rd hp927 69 13 = some z23.toInt := (ehp927 _ _ (Or.inr (by omega))).trans rhp24
            have h930 : sf_rd hp927 69 3 = some z917.toInt := (ehp927 _ _ (Or.inr (by omega))).trans hz917
            have h931 : sf_rd hp927 69 5 = some z918.toInt := (ehp927 _ _ (Or.inr (by omega))).trans hz918
            refine Ev.step (j := 75) (s' := ([some (.ref 69), none, none, none], [.ref 69], (0, 0), hp927)) rfl rfl ?_
            refine bs_lit (k := 4) rfl rfl fun z932 hz932 => ?_
            refine bs_putI (W := [(11, 11, 11), (999, 0, 0)]) (g := 11) rfl rfl Hhp927 (bs_R.uq Hhp927 (g := 11) rfl) (by decide) rfl rfl rfl rfl (Or.inl rfl) (by omega) (by omega) fun hp933 Hhp933 fhp933 rhp933 ehp933 qhp933 nhp933 => ?_
            have Fhp933 := sf_fr_tr Fhp927 (sf_fr_wider (W := [(999, 0, 0), (11, 4, 4), (11, 11, 14), (11, 17, 17)]) rfl fhp933)
            have h934 : sf_rd hp933 69 4 = some y5 := (ehp933 _ _ (Or.inr (by omega))).trans h928
            have h935 : sf_rd hp933 69 13 = some z23.toInt := (ehp933 _ _ (Or.inr (by omega))).trans h929
            have h936 : sf_rd hp933 69 3 = some z917.toInt := (ehp933 _ _ (Or.inr (by omega))).trans h930
            have h937 : sf_rd hp933 69 5 = some z918.toInt := (ehp933 _ _ (Or.inr (by omega))).trans h931
            have h938 : sf_rd hp933 69 12 = some z925.toInt := (ehp933 _ _ (Or.inr (by omega))).trans rhp927
            have A1 := psi_ge h934 rhp933
            have A2 := psi_ge Q4 Q11
            have PS : sf_psi hp933 ≤ sf_psi hp := by omega
            exact Ev.ret rfl rfl (by rw [hQ]; exact ⟨t2, Hhp933, (fr_unmark H Fhp933 PS), bs_anU, sf_S_nil⟩)
      · skip
        have c939 : z15.toInt = 10 := by omega
        refine Ev.step (j := 19) (s' := ([some (.ref 69), none, none, none], [.ref 69], (0, 0), hp1)) rfl rfl ?_
        refine Ev.step (j := 20) (s' := ([some (.ref 69), none, none, none], [.ref 69, .ref 69], (0, 0), hp1)) rfl rfl ?_
        refine bs_getI 11 rfl rfl rfl Hhp1 (bs_R.uq Hhp1 (g := 11) rfl) (by decide) rfl fun z940 hz940 lz940 gz940 => ?_
        have e941 : z940.toInt = y5 := Option.some.inj (hz940.symm.trans hy5)
        refine bs_lit (k := 1) rfl rfl fun z942 hz942 => ?_
        first | (refine bs_add rfl (by omega) (by omega) fun z943 hz943 => ?_) | (refine bs_any rfl fun z943 => ?_)
        have rz943 := n_range z943
        refine bs_putI (W := [(11, 4, 4), (999, 0, 0)]) (g := 11) rfl rfl Hhp1 (bs_R.uq Hhp1 (g := 11) rfl) (by decide) rfl rfl rfl rfl (Or.inl rfl) (by omega) (by omega) fun hp944 Hhp944 fhp944 rhp944 ehp944 qhp944 nhp944 => ?_
        have Fhp944 := sf_fr_tr Fhp1 (sf_fr_wider (W := [(999, 0, 0), (11, 4, 4), (11, 11, 14), (11, 17, 17)]) rfl fhp944)
        refine Ev.step (j := 0) (s' := ([some (.ref 69), none, none, none], [], (0, 0), hp944)) rfl rfl ?_
        have INV : ∃ v : Int, sf_rd hp944 69 4 = some v ∧ P0 ≤ v ∧ v ≤ 940 := ⟨_, rhp944, by omega, by omega⟩
        have MS : (940 - (sf_rd hp944 69 4).getD 0).toNat < (940 - (sf_rd hp1 69 4).getD 0).toNat := by
          rw [rhp944, hy5]
          show (940 - z943.toInt).toNat < (940 - y5).toNat
          omega
        refine ih3 (hp944, t2) ⟨Hhp944, Fhp944, (by exact INV)⟩ ?_
        show (940 - (sf_rd hp944 69 4).getD 0).toNat < (940 - (sf_rd hp1 69 4).getD 0).toNat
        exact MS
end
-- 63.b07.lean.txt
section
def kq_X10_fault_4c18a7 : sf_Q := ([(1, 10, 0)], [], some (0, 0, 0), [], [])
def kc_X10_fault_4c18a7 : List (Nat × sf_I) := [(0, 4, [1, 0]),
  (1, 23, [4, 10, 18]),
  (4, 35, [0, 0])]
def kd_X10_fault_4c18a7 : List (Nat × sf_D × sf_M) := [(0, ([(1, 10, 0)], [], [], 0, 0), (2, [])),
  (1, ([(1, 10, 0)], [(1, 10, 0)], [], 0, 0), (1, [])),
  (4, ([(1, 10, 0)], [(0, 0, 2147483647)], [(1, 0, 0, -2147483648, 2147483647, 0), (1, 33056, 0, -2147483648, 2147483647, 0), (2, 0, 33056, 1, 0, 0)], 0, 0), (0, []))]
set_option maxRecDepth 100000 in
theorem kt_X10_fault_4c18a7 : sf_chk [] kq_X10_fault_4c18a7 1 kc_X10_fault_4c18a7 kd_X10_fault_4c18a7 = true := by decide +kernel
set_option maxRecDepth 100000 in
theorem kl_X10_fault_4c18a7 : (kc_X10_fault_4c18a7).map (fun c => (c.1, sf_den ([] : List sf_X) c.2)) = L_X10_fault := rfl
theorem ct_X10_fault_4c18a7 : sf_ct kq_X10_fault_4c18a7 Z_X10_fault := by
  have h := sf_meth (K := []) (E := []) (k := kq_X10_fault_4c18a7) (nL := 1) (C := kc_X10_fault_4c18a7) (D := kd_X10_fault_4c18a7) (fun m k hk => match m, hk with
    | _ + 0, hk => (by cases hk)) kt_X10_fault_4c18a7
  rw [kl_X10_fault_4c18a7] at h
  exact h
def kq_X10_isGood_0df2a5 : sf_Q := ([(1, 10, 0), (0, 0, 0)], [], some (0, 0, 0), [(1, 0, 0, 0, 1, 0), (3, 0, 6, 0, 5, 0)], [])
def kc_X10_isGood_0df2a5 : List (Nat × sf_I) := [(0, 2, [1, 1]),
  (1, 20, [4, 19, 2]),
  (4, 2, [5, 1]),
  (5, 4, [6, 0]),
  (6, 23, [9, 10, 13]),
  (9, 23, [12, 7, 8]),
  (12, 21, [15, 19, 5]),
  (15, 0, [16, 1]),
  (16, 22, [20]),
  (19, 0, [20, 0]),
  (20, 36, [0, 0])]
def kd_X10_isGood_0df2a5 : List (Nat × sf_D × sf_M) := [(0, ([(1, 10, 0), (0, 0, 0)], [], [], 0, 0), (9, [])),
  (1, ([(1, 10, 0), (0, 0, 0)], [(0, 0, 0)], [(1, 0, 0, -2147483648, 2147483647, 0), (1, 4, 0, -2147483648, 2147483647, 0), (2, 0, 4, 1, 0, 0)], 0, 0), (8, [])),
  (4, ([(1, 10, 0), (0, 0, 0)], [], [(1, 4, 0, 0, 2147483647, 0)], 0, 0), (7, [])),
  (5, ([(1, 10, 0), (0, 0, 0)], [(0, 0, 0)], [(1, 4, 0, 0, 2147483647, 0), (1, 0, 0, 0, 2147483647, 0), (2, 0, 4, 1, 0, 0)], 0, 0), (6, [])),
  (6, ([(1, 10, 0), (0, 0, 0)], [(1, 10, 0), (0, 0, 0)], [(1, 4, 0, 0, 2147483647, 0), (1, 0, 0, 0, 2147483647, 0), (2, 0, 4, 1, 0, 0)], 0, 0), (5, [])),
  (9, ([(1, 10, 0), (0, 0, 0)], [(1, 7, 0), (0, 0, 0)], [(1, 4, 0, 0, 2147483647, 0), (1, 0, 0, 0, 2147483647, 0), (2, 0, 4, 1, 0, 0)], 0, 0), (4, [])),
  (12, ([(1, 10, 0), (0, 0, 0)], [(0, 0, 6), (0, 0, 0)], [(1, 4, 0, 0, 2147483647, 0), (1, 0, 0, 0, 2147483647, 0), (1, 3, 0, 0, 6, 0), (2, 0, 4, 1, 0, 0)], 0, 0), (3, [])),
  (15, ([(1, 10, 0), (0, 0, 0)], [], [(1, 4, 0, 0, 5, 0)], 0, 0), (2, [])),
  (16, ([(1, 10, 0), (0, 0, 0)], [(0, 0, 0)], [(1, 4, 0, 0, 5, 0), (1, 0, 0, 1, 1, 0)], 0, 0), (1, [])),
  (19, ([(1, 10, 0), (0, 0, 0)], [], [(1, 4, 0, -2147483648, 2147483647, 0)], 0, 0), (1, [])),
  (20, ([(1, 10, 0), (0, 0, 0)], [(0, 0, 0)], [(1, 4, 0, -2147483648, 2147483647, 0), (1, 0, 0, 0, 1, 0), (3, 0, 4, 0, 5, 0)], 0, 0), (0, []))]
set_option maxRecDepth 100000 in
theorem kt_X10_isGood_0df2a5 : sf_chk [] kq_X10_isGood_0df2a5 2 kc_X10_isGood_0df2a5 kd_X10_isGood_0df2a5 = true := by decide +kernel
set_option maxRecDepth 100000 in
theorem kl_X10_isGood_0df2a5 : (kc_X10_isGood_0df2a5).map (fun c => (c.1, sf_den ([] : List sf_X) c.2)) = L_X10_isGood := rfl
theorem ct_X10_isGood_0df2a5 : sf_ct kq_X10_isGood_0df2a5 Z_X10_isGood := by
  have h := sf_meth (K := []) (E := []) (k := kq_X10_isGood_0df2a5) (nL := 2) (C := kc_X10_isGood_0df2a5) (D := kd_X10_isGood_0df2a5) (fun m k hk => match m, hk with
    | _ + 0, hk => (by cases hk)) kt_X10_isGood_0df2a5
  rw [kl_X10_isGood_0df2a5] at h
  exact h
def kq_X10_isShore_4956e8 : sf_Q := ([(0, 0, 0)], [], some (0, 0, 0), [(1, 0, 0, 0, 1, 0), (3, 0, 3, 0, 1, 0)], [])
def kc_X10_isShore_4956e8 : List (Nat × sf_I) := [(0, 2, [1, 0]),
  (1, 20, [4, 9, 0]),
  (4, 2, [5, 0]),
  (5, 0, [6, 1]),
  (6, 21, [9, 13, 1]),
  (9, 0, [10, 1]),
  (10, 22, [14]),
  (13, 0, [14, 0]),
  (14, 36, [0, 0])]
def kd_X10_isShore_4956e8 : List (Nat × sf_D × sf_M) := [(0, ([(0, 0, 0)], [], [], 0, 0), (7, [])),
  (1, ([(0, 0, 0)], [(0, 0, 0)], [(1, 0, 0, -2147483648, 2147483647, 0), (1, 1, 0, -2147483648, 2147483647, 0), (2, 0, 1, 1, 0, 0)], 0, 0), (6, [])),
  (4, ([(0, 0, 0)], [], [(1, 1, 0, -2147483648, 2147483647, 0)], 0, 0), (5, [])),
  (5, ([(0, 0, 0)], [(0, 0, 0)], [(1, 1, 0, -2147483648, 2147483647, 0), (1, 0, 0, -2147483648, 2147483647, 0), (2, 0, 1, 1, 0, 0)], 0, 0), (4, [])),
  (6, ([(0, 0, 0)], [(0, 0, 0), (0, 0, 0)], [(1, 1, 0, -2147483648, 2147483647, 0), (1, 0, 0, -2147483648, 2147483647, 0), (1, 3, 0, 1, 1, 0), (2, 0, 1, 1, 0, 0)], 0, 0), (3, [])),
  (9, ([(0, 0, 0)], [], [(1, 1, 0, 0, 1, 0)], 0, 0), (2, [])),
  (10, ([(0, 0, 0)], [(0, 0, 0)], [(1, 1, 0, 0, 1, 0), (1, 0, 0, 1, 1, 0)], 0, 0), (1, [])),
  (13, ([(0, 0, 0)], [], [(1, 1, 0, -2147483648, 2147483647, 0)], 0, 0), (1, [])),
  (14, ([(0, 0, 0)], [(0, 0, 0)], [(1, 1, 0, -2147483648, 2147483647, 0), (1, 0, 0, 0, 1, 0), (3, 0, 1, 0, 1, 0)], 0, 0), (0, []))]
set_option maxRecDepth 100000 in
theorem kt_X10_isShore_4956e8 : sf_chk [] kq_X10_isShore_4956e8 1 kc_X10_isShore_4956e8 kd_X10_isShore_4956e8 = true := by decide +kernel
set_option maxRecDepth 100000 in
theorem kl_X10_isShore_4956e8 : (kc_X10_isShore_4956e8).map (fun c => (c.1, sf_den ([] : List sf_X) c.2)) = L_X10_isShore := rfl
theorem ct_X10_isShore_4956e8 : sf_ct kq_X10_isShore_4956e8 Z_X10_isShore := by
  have h := sf_meth (K := []) (E := []) (k := kq_X10_isShore_4956e8) (nL := 1) (C := kc_X10_isShore_4956e8) (D := kd_X10_isShore_4956e8) (fun m k hk => match m, hk with
    | _ + 0, hk => (by cases hk)) kt_X10_isShore_4956e8
  rw [kl_X10_isShore_4956e8] at h
  exact h
def kq_X10_isSlot_57b5ea : sf_Q := ([(1, 10, 0), (0, 0, 0), (0, 0, 0)], [], some (0, 0, 0), [(1, 0, 0, 0, 1, 0), (3, 0, 6, 0, 5, 0), (3, 0, 9, 0, 1, 0)], [])
def kc_X10_isSlot_57b5ea : List (Nat × sf_I) := [(0, 4, [1, 0]),
  (1, 2, [2, 1]),
  (2, 32, [5, 0, 2, 10, 0, 0, 0, 0]),
  (5, 20, [8, 19, 0]),
  (8, 2, [9, 2]),
  (9, 31, [12, 1, 1, 0, 0, 0, 0]),
  (12, 20, [15, 19, 0]),
  (15, 0, [16, 1]),
  (16, 22, [20]),
  (19, 0, [20, 0]),
  (20, 36, [0, 0])]
def kd_X10_isSlot_57b5ea : List (Nat × sf_D × sf_M) := [(0, ([(1, 10, 0), (0, 0, 0), (0, 0, 0)], [], [], 0, 0), (9, [])),
  (1, ([(1, 10, 0), (0, 0, 0), (0, 0, 0)], [(1, 10, 0)], [], 0, 0), (8, [])),
  (2, ([(1, 10, 0), (0, 0, 0), (0, 0, 0)], [(0, 0, 0), (1, 10, 0)], [(1, 3, 0, -2147483648, 2147483647, 0), (1, 4, 0, -2147483648, 2147483647, 0), (2, 3, 4, 1, 0, 0)], 0, 0), (7, [])),
  (5, ([(1, 10, 0), (0, 0, 0), (0, 0, 0)], [(0, 0, 0)], [(1, 4, 0, -2147483648, 2147483647, 0), (1, 0, 0, 0, 1, 0), (3, 0, 4, 0, 5, 0)], 0, 0), (6, [])),
  (8, ([(1, 10, 0), (0, 0, 0), (0, 0, 0)], [], [(1, 4, 0, 0, 5, 0)], 0, 0), (5, [])),
  (9, ([(1, 10, 0), (0, 0, 0), (0, 0, 0)], [(0, 0, 0)], [(1, 4, 0, 0, 5, 0), (1, 0, 0, -2147483648, 2147483647, 0), (1, 7, 0, -2147483648, 2147483647, 0), (2, 0, 7, 1, 0, 0)], 0, 0), (4, [])),
  (12, ([(1, 10, 0), (0, 0, 0), (0, 0, 0)], [(0, 0, 0)], [(1, 4, 0, 0, 5, 0), (1, 7, 0, -2147483648, 2147483647, 0), (1, 0, 0, 0, 1, 0), (3, 0, 7, 0, 1, 0)], 0, 0), (3, [])),
  (15, ([(1, 10, 0), (0, 0, 0), (0, 0, 0)], [], [(1, 4, 0, 0, 5, 0), (1, 7, 0, 0, 1, 0)], 0, 0), (2, [])),
  (16, ([(1, 10, 0), (0, 0, 0), (0, 0, 0)], [(0, 0, 0)], [(1, 4, 0, 0, 5, 0), (1, 7, 0, 0, 1, 0), (1, 0, 0, 1, 1, 0)], 0, 0), (1, [])),
  (19, ([(1, 10, 0), (0, 0, 0), (0, 0, 0)], [], [(1, 4, 0, -2147483648, 2147483647, 0)], 0, 0), (1, [])),
  (20, ([(1, 10, 0), (0, 0, 0), (0, 0, 0)], [(0, 0, 0)], [(1, 4, 0, -2147483648, 2147483647, 0), (1, 0, 0, 0, 1, 0), (3, 0, 4, 0, 5, 0), (3, 0, 7, 0, 1, 0)], 0, 0), (0, []))]
set_option maxRecDepth 100000 in
theorem kt_X10_isSlot_57b5ea : sf_chk [kq_X10_isGood_0df2a5, kq_X10_isShore_4956e8] kq_X10_isSlot_57b5ea 3 kc_X10_isSlot_57b5ea kd_X10_isSlot_57b5ea = true := by decide +kernel
set_option maxRecDepth 100000 in
theorem kl_X10_isSlot_57b5ea : (kc_X10_isSlot_57b5ea).map (fun c => (c.1, sf_den ([Z_X10_isGood, Z_X10_isShore] : List sf_X) c.2)) = L_X10_isSlot Z_X10_isGood Z_X10_isShore := rfl
theorem ct_X10_isSlot_57b5ea : sf_ct kq_X10_isSlot_57b5ea Z_X10_isSlot := by
  have h := sf_meth (K := [kq_X10_isGood_0df2a5, kq_X10_isShore_4956e8]) (E := [Z_X10_isGood, Z_X10_isShore]) (k := kq_X10_isSlot_57b5ea) (nL := 3) (C := kc_X10_isSlot_57b5ea) (D := kd_X10_isSlot_57b5ea) (fun m k hk => match m, hk with
    | 0, hk => (Option.some.inj hk) ▸ ct_X10_isGood_0df2a5
    | 1, hk => (Option.some.inj hk) ▸ ct_X10_isShore_4956e8
    | _ + 2, hk => (by cases hk)) kt_X10_isSlot_57b5ea
  rw [kl_X10_isSlot_57b5ea] at h
  exact h
def kq_X10_slotOf_2f4f15 : sf_Q := ([(0, 0, 0), (0, 0, 0)], [(1, 0, 0, 0, 5, 0), (1, 3, 0, 0, 1, 0)], some (0, 0, 0), [(1, 0, 0, 0, 11, 0)], [])
def kc_X10_slotOf_2f4f15 : List (Nat × sf_I) := [(0, 0, [1, 2]),
  (1, 2, [2, 0]),
  (2, 9, [3, 2]),
  (3, 2, [4, 1]),
  (4, 9, [5, 0]),
  (5, 35, [0, 0])]
def kd_X10_slotOf_2f4f15 : List (Nat × sf_D × sf_M) := [(0, ([(0, 0, 0), (0, 0, 0)], [], [(1, 1, 0, 0, 5, 0), (1, 4, 0, 0, 1, 0)], 0, 0), (5, [])),
  (1, ([(0, 0, 0), (0, 0, 0)], [(0, 0, 0)], [(1, 1, 0, 0, 5, 0), (1, 4, 0, 0, 1, 0), (1, 0, 0, 2, 2, 0)], 0, 0), (4, [])),
  (2, ([(0, 0, 0), (0, 0, 0)], [(0, 0, 0), (0, 0, 0)], [(1, 1, 0, 0, 5, 0), (1, 4, 0, 0, 1, 0), (1, 0, 0, 2, 2, 0), (1, 3, 0, 0, 5, 0), (2, 3, 1, 1, 0, 0)], 0, 0), (3, [])),
  (3, ([(0, 0, 0), (0, 0, 0)], [(0, 0, 0)], [(1, 1, 0, 0, 5, 0), (1, 4, 0, 0, 1, 0), (1, 0, 0, 0, 10, 0), (2, 0, 1, 2, 0, 0)], 0, 0), (2, [])),
  (4, ([(0, 0, 0), (0, 0, 0)], [(0, 0, 0), (0, 0, 0)], [(1, 1, 0, 0, 5, 0), (1, 4, 0, 0, 1, 0), (1, 0, 0, 0, 10, 0), (1, 3, 0, 0, 1, 0), (2, 0, 1, 2, 0, 0), (2, 3, 4, 1, 0, 0)], 0, 0), (1, [])),
  (5, ([(0, 0, 0), (0, 0, 0)], [(0, 0, 0)], [(1, 1, 0, 0, 5, 0), (1, 4, 0, 0, 1, 0), (1, 0, 0, 0, 11, 0)], 0, 0), (0, []))]
set_option maxRecDepth 100000 in
theorem kt_X10_slotOf_2f4f15 : sf_chk [] kq_X10_slotOf_2f4f15 2 kc_X10_slotOf_2f4f15 kd_X10_slotOf_2f4f15 = true := by decide +kernel
set_option maxRecDepth 100000 in
theorem kl_X10_slotOf_2f4f15 : (kc_X10_slotOf_2f4f15).map (fun c => (c.1, sf_den ([] : List sf_X) c.2)) = L_X10_slotOf := rfl
theorem ct_X10_slotOf_2f4f15 : sf_ct kq_X10_slotOf_2f4f15 Z_X10_slotOf := by
  have h := sf_meth (K := []) (E := []) (k := kq_X10_slotOf_2f4f15) (nL := 2) (C := kc_X10_slotOf_2f4f15) (D := kd_X10_slotOf_2f4f15) (fun m k hk => match m, hk with
    | _ + 0, hk => (by cases hk)) kt_X10_slotOf_2f4f15
  rw [kl_X10_slotOf_2f4f15] at h
  exact h
def kq_X10_good_7e6f69 : sf_Q := ([(1, 10, 0), (0, 0, 0), (0, 0, 0), (0, 0, 0)], [], some (0, 0, 0), [], [])
def kc_X10_good_7e6f69 : List (Nat × sf_I) := [(0, 4, [1, 0]),
  (1, 2, [2, 1]),
  (2, 2, [3, 2]),
  (3, 32, [6, 0, 3, 10, 0, 0, 0, 0]),
  (6, 20, [9, 11, 1]),
  (9, 0, [10, -1]),
  (10, 35, [0, 0]),
  (11, 2, [12, 1]),
  (12, 2, [13, 2]),
  (13, 31, [16, 1, 2, 0, 0, 0, 0]),
  (16, 5, [18, 4]),
  (18, 2, [19, 3]),
  (19, 34, [0, 166, 64, 75, 86, 97, 108, 119, 133, 155]),
  (64, 4, [65, 0]),
  (65, 23, [68, 10, 4]),
  (68, 23, [71, 6, 0]),
  (71, 2, [73, 4]),
  (73, 25, [74, 1]),
  (74, 35, [0, 0]),
  (75, 4, [76, 0]),
  (76, 23, [79, 10, 4]),
  (79, 23, [82, 6, 1]),
  (82, 2, [84, 4]),
  (84, 25, [85, 1]),
  (85, 35, [0, 0]),
  (86, 4, [87, 0]),
  (87, 23, [90, 10, 13]),
  (90, 0, [91, 1]),
  (91, 2, [93, 4]),
  (93, 32, [96, 2, 3, 7, 0, 0, 0, 0]),
  (96, 35, [0, 0]),
  (97, 4, [98, 0]),
  (98, 23, [101, 10, 13]),
  (101, 0, [102, 2]),
  (102, 2, [104, 4]),
  (104, 32, [107, 3, 3, 7, 0, 0, 0, 0]),
  (107, 35, [0, 0]),
  (108, 4, [109, 0]),
  (109, 23, [112, 10, 13]),
  (112, 0, [113, 3]),
  (113, 2, [115, 4]),
  (115, 32, [118, 4, 3, 7, 0, 0, 0, 0]),
  (118, 35, [0, 0]),
  (119, 4, [120, 0]),
  (120, 23, [123, 10, 4]),
  (123, 4, [124, 0]),
  (124, 23, [127, 10, 13]),
  (127, 2, [129, 4]),
  (129, 32, [132, 5, 3, 6, 0, 0, 0, 0]),
  (132, 35, [0, 0]),
  (133, 4, [134, 0]),
  (134, 23, [137, 10, 4]),
  (137, 4, [138, 0]),
  (138, 23, [141, 10, 13]),
  (141, 2, [143, 4]),
  (143, 32, [146, 6, 3, 6, 0, 0, 0, 0]),
  (146, 20, [149, 153, 0]),
  (149, 0, [150, 1]),
  (150, 22, [154]),
  (153, 0, [154, 0]),
  (154, 35, [0, 0]),
  (155, 4, [156, 0]),
  (156, 23, [159, 10, 4]),
  (159, 23, [162, 6, 2]),
  (162, 2, [164, 4]),
  (164, 25, [165, 1]),
  (165, 35, [0, 0]),
  (166, 0, [167, -1]),
  (167, 35, [0, 0])]
def kd_X10_good_7e6f69_0 : List (Nat × sf_D × sf_M) := [(0, ([(1, 10, 0), (0, 0, 0), (0, 0, 0), (0, 0, 0), (8, 0, 0)], [], [], 0, 0), (20, [])),
  (1, ([(1, 10, 0), (0, 0, 0), (0, 0, 0), (0, 0, 0), (8, 0, 0)], [(1, 10, 0)], [], 0, 0), (19, [])),
  (2, ([(1, 10, 0), (0, 0, 0), (0, 0, 0), (0, 0, 0), (8, 0, 0)], [(0, 0, 0), (1, 10, 0)], [(1, 3, 0, -2147483648, 2147483647, 0), (1, 4, 0, -2147483648, 2147483647, 0), (2, 3, 4, 1, 0, 0)], 0, 0), (18, [])),
  (3, ([(1, 10, 0), (0, 0, 0), (0, 0, 0), (0, 0, 0), (8, 0, 0)], [(0, 0, 0), (0, 0, 0), (1, 10, 0)], [(1, 3, 0, -2147483648, 2147483647, 0), (1, 4, 0, -2147483648, 2147483647, 0), (1, 6, 0, -2147483648, 2147483647, 0), (1, 7, 0, -2147483648, 2147483647, 0), (2, 3, 4, 1, 0, 0), (2, 6, 7, 1, 0, 0)], 0, 0), (17, [])),
  (6, ([(1, 10, 0), (0, 0, 0), (0, 0, 0), (0, 0, 0), (8, 0, 0)], [(0, 0, 0)], [(1, 4, 0, -2147483648, 2147483647, 0), (1, 7, 0, -2147483648, 2147483647, 0), (1, 0, 0, 0, 1, 0), (3, 0, 4, 0, 5, 0), (3, 0, 7, 0, 1, 0)], 0, 0), (16, [])),
  (9, ([(1, 10, 0), (0, 0, 0), (0, 0, 0), (0, 0, 0), (8, 0, 0)], [], [(1, 4, 0, -2147483648, 2147483647, 0), (1, 7, 0, -2147483648, 2147483647, 0)], 0, 0), (1, [])),
  (10, ([(1, 10, 0), (0, 0, 0), (0, 0, 0), (0, 0, 0), (8, 0, 0)], [(0, 0, 0)], [(1, 4, 0, -2147483648, 2147483647, 0), (1, 7, 0, -2147483648, 2147483647, 0), (1, 0, 0, -1, -1, 0)], 0, 0), (0, [])),
  (11, ([(1, 10, 0), (0, 0, 0), (0, 0, 0), (0, 0, 0), (8, 0, 0)], [], [(1, 4, 0, 0, 5, 0), (1, 7, 0, 0, 1, 0)], 0, 0), (15, []))]
def kd_X10_good_7e6f69_1 : List (Nat × sf_D × sf_M) := [(12, ([(1, 10, 0), (0, 0, 0), (0, 0, 0), (0, 0, 0), (8, 0, 0)], [(0, 0, 0)], [(1, 4, 0, 0, 5, 0), (1, 7, 0, 0, 1, 0), (1, 0, 0, 0, 5, 0), (2, 0, 4, 1, 0, 0)], 0, 0), (14, [])),
  (13, ([(1, 10, 0), (0, 0, 0), (0, 0, 0), (0, 0, 0), (8, 0, 0)], [(0, 0, 0), (0, 0, 0)], [(1, 4, 0, 0, 5, 0), (1, 7, 0, 0, 1, 0), (1, 0, 0, 0, 5, 0), (1, 3, 0, 0, 1, 0), (2, 0, 4, 1, 0, 0), (2, 3, 7, 1, 0, 0)], 0, 0), (13, [])),
  (16, ([(1, 10, 0), (0, 0, 0), (0, 0, 0), (0, 0, 0), (8, 0, 0)], [(0, 0, 0)], [(1, 4, 0, 0, 5, 0), (1, 7, 0, 0, 1, 0), (1, 0, 0, 0, 11, 0)], 0, 0), (12, [])),
  (18, ([(1, 10, 0), (0, 0, 0), (0, 0, 0), (0, 0, 0), (0, 0, 0)], [], [(1, 4, 0, 0, 5, 0), (1, 7, 0, 0, 1, 0), (1, 13, 0, 0, 11, 0)], 0, 0), (11, [])),
  (19, ([(1, 10, 0), (0, 0, 0), (0, 0, 0), (0, 0, 0), (0, 0, 0)], [(0, 0, 0)], [(1, 4, 0, 0, 5, 0), (1, 7, 0, 0, 1, 0), (1, 13, 0, 0, 11, 0), (1, 0, 0, -2147483648, 2147483647, 0), (1, 10, 0, -2147483648, 2147483647, 0), (2, 0, 10, 1, 0, 0)], 0, 0), (10, [])),
  (64, ([(1, 10, 0), (0, 0, 0), (0, 0, 0), (0, 0, 0), (0, 0, 0)], [], [(1, 4, 0, 0, 5, 0), (1, 7, 0, 0, 1, 0), (1, 13, 0, 0, 11, 0), (1, 10, 0, 0, 0, 0)], 0, 0), (5, []))]
def kd_X10_good_7e6f69_2 : List (Nat × sf_D × sf_M) := [(65, ([(1, 10, 0), (0, 0, 0), (0, 0, 0), (0, 0, 0), (0, 0, 0)], [(1, 10, 0)], [(1, 4, 0, 0, 5, 0), (1, 7, 0, 0, 1, 0), (1, 13, 0, 0, 11, 0), (1, 10, 0, 0, 0, 0)], 0, 0), (4, [])),
  (68, ([(1, 10, 0), (0, 0, 0), (0, 0, 0), (0, 0, 0), (0, 0, 0)], [(1, 6, 0)], [(1, 4, 0, 0, 5, 0), (1, 7, 0, 0, 1, 0), (1, 13, 0, 0, 11, 0), (1, 10, 0, 0, 0, 0)], 0, 0), (3, [])),
  (71, ([(1, 10, 0), (0, 0, 0), (0, 0, 0), (0, 0, 0), (0, 0, 0)], [(1, 149, 0)], [(1, 4, 0, 0, 5, 0), (1, 7, 0, 0, 1, 0), (1, 13, 0, 0, 11, 0), (1, 10, 0, 0, 0, 0)], 0, 0), (2, [])),
  (73, ([(1, 10, 0), (0, 0, 0), (0, 0, 0), (0, 0, 0), (0, 0, 0)], [(0, 0, 0), (1, 149, 0)], [(1, 4, 0, 0, 5, 0), (1, 7, 0, 0, 1, 0), (1, 13, 0, 0, 11, 0), (1, 10, 0, 0, 0, 0), (1, 3, 0, 0, 11, 0), (2, 3, 13, 1, 0, 0)], 0, 0), (1, [])),
  (74, ([(1, 10, 0), (0, 0, 0), (0, 0, 0), (0, 0, 0), (0, 0, 0)], [(0, 0, 0)], [(1, 4, 0, 0, 5, 0), (1, 7, 0, 0, 1, 0), (1, 13, 0, 0, 11, 0), (1, 10, 0, 0, 0, 0), (1, 0, 0, 0, 999, 0)], 0, 0), (0, [])),
  (75, ([(1, 10, 0), (0, 0, 0), (0, 0, 0), (0, 0, 0), (0, 0, 0)], [], [(1, 4, 0, 0, 5, 0), (1, 7, 0, 0, 1, 0), (1, 13, 0, 0, 11, 0), (1, 10, 0, 1, 1, 0)], 0, 0), (5, []))]
def kd_X10_good_7e6f69_3 : List (Nat × sf_D × sf_M) := [(76, ([(1, 10, 0), (0, 0, 0), (0, 0, 0), (0, 0, 0), (0, 0, 0)], [(1, 10, 0)], [(1, 4, 0, 0, 5, 0), (1, 7, 0, 0, 1, 0), (1, 13, 0, 0, 11, 0), (1, 10, 0, 1, 1, 0)], 0, 0), (4, [])),
  (79, ([(1, 10, 0), (0, 0, 0), (0, 0, 0), (0, 0, 0), (0, 0, 0)], [(1, 6, 0)], [(1, 4, 0, 0, 5, 0), (1, 7, 0, 0, 1, 0), (1, 13, 0, 0, 11, 0), (1, 10, 0, 1, 1, 0)], 0, 0), (3, [])),
  (82, ([(1, 10, 0), (0, 0, 0), (0, 0, 0), (0, 0, 0), (0, 0, 0)], [(1, 150, 0)], [(1, 4, 0, 0, 5, 0), (1, 7, 0, 0, 1, 0), (1, 13, 0, 0, 11, 0), (1, 10, 0, 1, 1, 0)], 0, 0), (2, [])),
  (84, ([(1, 10, 0), (0, 0, 0), (0, 0, 0), (0, 0, 0), (0, 0, 0)], [(0, 0, 0), (1, 150, 0)], [(1, 4, 0, 0, 5, 0), (1, 7, 0, 0, 1, 0), (1, 13, 0, 0, 11, 0), (1, 10, 0, 1, 1, 0), (1, 3, 0, 0, 11, 0), (2, 3, 13, 1, 0, 0)], 0, 0), (1, [])),
  (85, ([(1, 10, 0), (0, 0, 0), (0, 0, 0), (0, 0, 0), (0, 0, 0)], [(0, 0, 0)], [(1, 4, 0, 0, 5, 0), (1, 7, 0, 0, 1, 0), (1, 13, 0, 0, 11, 0), (1, 10, 0, 1, 1, 0), (1, 0, 0, -2147483648, 2147483647, 0)], 0, 0), (0, [])),
  (86, ([(1, 10, 0), (0, 0, 0), (0, 0, 0), (0, 0, 0), (0, 0, 0)], [], [(1, 4, 0, 0, 5, 0), (1, 7, 0, 0, 1, 0), (1, 13, 0, 0, 11, 0), (1, 10, 0, 2, 2, 0)], 0, 0), (5, []))]
def kd_X10_good_7e6f69_4 : List (Nat × sf_D × sf_M) := [(87, ([(1, 10, 0), (0, 0, 0), (0, 0, 0), (0, 0, 0), (0, 0, 0)], [(1, 10, 0)], [(1, 4, 0, 0, 5, 0), (1, 7, 0, 0, 1, 0), (1, 13, 0, 0, 11, 0), (1, 10, 0, 2, 2, 0)], 0, 0), (4, [])),
  (90, ([(1, 10, 0), (0, 0, 0), (0, 0, 0), (0, 0, 0), (0, 0, 0)], [(1, 7, 0)], [(1, 4, 0, 0, 5, 0), (1, 7, 0, 0, 1, 0), (1, 13, 0, 0, 11, 0), (1, 10, 0, 2, 2, 0)], 0, 0), (3, [])),
  (91, ([(1, 10, 0), (0, 0, 0), (0, 0, 0), (0, 0, 0), (0, 0, 0)], [(0, 0, 0), (1, 7, 0)], [(1, 4, 0, 0, 5, 0), (1, 7, 0, 0, 1, 0), (1, 13, 0, 0, 11, 0), (1, 10, 0, 2, 2, 0), (1, 3, 0, 1, 1, 0)], 0, 0), (2, [])),
  (93, ([(1, 10, 0), (0, 0, 0), (0, 0, 0), (0, 0, 0), (0, 0, 0)], [(0, 0, 0), (0, 0, 0), (1, 7, 0)], [(1, 4, 0, 0, 5, 0), (1, 7, 0, 0, 1, 0), (1, 13, 0, 0, 11, 0), (1, 10, 0, 2, 2, 0), (1, 3, 0, 1, 1, 0), (1, 6, 0, 0, 11, 0), (2, 6, 13, 1, 0, 0)], 0, 0), (1, [])),
  (96, ([(1, 10, 0), (0, 0, 0), (0, 0, 0), (0, 0, 0), (0, 0, 0)], [(0, 0, 0)], [(1, 4, 0, 0, 5, 0), (1, 7, 0, 0, 1, 0), (1, 13, 0, 0, 11, 0), (1, 10, 0, 2, 2, 0), (1, 0, 0, 0, 250, 0)], 0, 0), (0, []))]
def kd_X10_good_7e6f69_5 : List (Nat × sf_D × sf_M) := [(97, ([(1, 10, 0), (0, 0, 0), (0, 0, 0), (0, 0, 0), (0, 0, 0)], [], [(1, 4, 0, 0, 5, 0), (1, 7, 0, 0, 1, 0), (1, 13, 0, 0, 11, 0), (1, 10, 0, 3, 3, 0)], 0, 0), (5, [])),
  (98, ([(1, 10, 0), (0, 0, 0), (0, 0, 0), (0, 0, 0), (0, 0, 0)], [(1, 10, 0)], [(1, 4, 0, 0, 5, 0), (1, 7, 0, 0, 1, 0), (1, 13, 0, 0, 11, 0), (1, 10, 0, 3, 3, 0)], 0, 0), (4, [])),
  (101, ([(1, 10, 0), (0, 0, 0), (0, 0, 0), (0, 0, 0), (0, 0, 0)], [(1, 7, 0)], [(1, 4, 0, 0, 5, 0), (1, 7, 0, 0, 1, 0), (1, 13, 0, 0, 11, 0), (1, 10, 0, 3, 3, 0)], 0, 0), (3, [])),
  (102, ([(1, 10, 0), (0, 0, 0), (0, 0, 0), (0, 0, 0), (0, 0, 0)], [(0, 0, 0), (1, 7, 0)], [(1, 4, 0, 0, 5, 0), (1, 7, 0, 0, 1, 0), (1, 13, 0, 0, 11, 0), (1, 10, 0, 3, 3, 0), (1, 3, 0, 2, 2, 0)], 0, 0), (2, [])),
  (104, ([(1, 10, 0), (0, 0, 0), (0, 0, 0), (0, 0, 0), (0, 0, 0)], [(0, 0, 0), (0, 0, 0), (1, 7, 0)], [(1, 4, 0, 0, 5, 0), (1, 7, 0, 0, 1, 0), (1, 13, 0, 0, 11, 0), (1, 10, 0, 3, 3, 0), (1, 3, 0, 2, 2, 0), (1, 6, 0, 0, 11, 0), (2, 6, 13, 1, 0, 0)], 0, 0), (1, []))]
def kd_X10_good_7e6f69_6 : List (Nat × sf_D × sf_M) := [(107, ([(1, 10, 0), (0, 0, 0), (0, 0, 0), (0, 0, 0), (0, 0, 0)], [(0, 0, 0)], [(1, 4, 0, 0, 5, 0), (1, 7, 0, 0, 1, 0), (1, 13, 0, 0, 11, 0), (1, 10, 0, 3, 3, 0), (1, 0, 0, 0, 250, 0)], 0, 0), (0, [])),
  (108, ([(1, 10, 0), (0, 0, 0), (0, 0, 0), (0, 0, 0), (0, 0, 0)], [], [(1, 4, 0, 0, 5, 0), (1, 7, 0, 0, 1, 0), (1, 13, 0, 0, 11, 0), (1, 10, 0, 4, 4, 0)], 0, 0), (5, [])),
  (109, ([(1, 10, 0), (0, 0, 0), (0, 0, 0), (0, 0, 0), (0, 0, 0)], [(1, 10, 0)], [(1, 4, 0, 0, 5, 0), (1, 7, 0, 0, 1, 0), (1, 13, 0, 0, 11, 0), (1, 10, 0, 4, 4, 0)], 0, 0), (4, [])),
  (112, ([(1, 10, 0), (0, 0, 0), (0, 0, 0), (0, 0, 0), (0, 0, 0)], [(1, 7, 0)], [(1, 4, 0, 0, 5, 0), (1, 7, 0, 0, 1, 0), (1, 13, 0, 0, 11, 0), (1, 10, 0, 4, 4, 0)], 0, 0), (3, [])),
  (113, ([(1, 10, 0), (0, 0, 0), (0, 0, 0), (0, 0, 0), (0, 0, 0)], [(0, 0, 0), (1, 7, 0)], [(1, 4, 0, 0, 5, 0), (1, 7, 0, 0, 1, 0), (1, 13, 0, 0, 11, 0), (1, 10, 0, 4, 4, 0), (1, 3, 0, 3, 3, 0)], 0, 0), (2, []))]
def kd_X10_good_7e6f69_7 : List (Nat × sf_D × sf_M) := [(115, ([(1, 10, 0), (0, 0, 0), (0, 0, 0), (0, 0, 0), (0, 0, 0)], [(0, 0, 0), (0, 0, 0), (1, 7, 0)], [(1, 4, 0, 0, 5, 0), (1, 7, 0, 0, 1, 0), (1, 13, 0, 0, 11, 0), (1, 10, 0, 4, 4, 0), (1, 3, 0, 3, 3, 0), (1, 6, 0, 0, 11, 0), (2, 6, 13, 1, 0, 0)], 0, 0), (1, [])),
  (118, ([(1, 10, 0), (0, 0, 0), (0, 0, 0), (0, 0, 0), (0, 0, 0)], [(0, 0, 0)], [(1, 4, 0, 0, 5, 0), (1, 7, 0, 0, 1, 0), (1, 13, 0, 0, 11, 0), (1, 10, 0, 4, 4, 0), (1, 0, 0, 0, 250, 0)], 0, 0), (0, [])),
  (119, ([(1, 10, 0), (0, 0, 0), (0, 0, 0), (0, 0, 0), (0, 0, 0)], [], [(1, 4, 0, 0, 5, 0), (1, 7, 0, 0, 1, 0), (1, 13, 0, 0, 11, 0), (1, 10, 0, 5, 5, 0)], 0, 0), (6, [])),
  (120, ([(1, 10, 0), (0, 0, 0), (0, 0, 0), (0, 0, 0), (0, 0, 0)], [(1, 10, 0)], [(1, 4, 0, 0, 5, 0), (1, 7, 0, 0, 1, 0), (1, 13, 0, 0, 11, 0), (1, 10, 0, 5, 5, 0)], 0, 0), (5, [])),
  (123, ([(1, 10, 0), (0, 0, 0), (0, 0, 0), (0, 0, 0), (0, 0, 0)], [(1, 6, 0)], [(1, 4, 0, 0, 5, 0), (1, 7, 0, 0, 1, 0), (1, 13, 0, 0, 11, 0), (1, 10, 0, 5, 5, 0)], 0, 0), (4, [])),
  (124, ([(1, 10, 0), (0, 0, 0), (0, 0, 0), (0, 0, 0), (0, 0, 0)], [(1, 10, 0), (1, 6, 0)], [(1, 4, 0, 0, 5, 0), (1, 7, 0, 0, 1, 0), (1, 13, 0, 0, 11, 0), (1, 10, 0, 5, 5, 0)], 0, 0), (3, []))]
def kd_X10_good_7e6f69_8 : List (Nat × sf_D × sf_M) := [(127, ([(1, 10, 0), (0, 0, 0), (0, 0, 0), (0, 0, 0), (0, 0, 0)], [(1, 7, 0), (1, 6, 0)], [(1, 4, 0, 0, 5, 0), (1, 7, 0, 0, 1, 0), (1, 13, 0, 0, 11, 0), (1, 10, 0, 5, 5, 0)], 0, 0), (2, [])),
  (129, ([(1, 10, 0), (0, 0, 0), (0, 0, 0), (0, 0, 0), (0, 0, 0)], [(0, 0, 0), (1, 7, 0), (1, 6, 0)], [(1, 4, 0, 0, 5, 0), (1, 7, 0, 0, 1, 0), (1, 13, 0, 0, 11, 0), (1, 10, 0, 5, 5, 0), (1, 6, 0, 0, 11, 0), (2, 6, 13, 1, 0, 0)], 0, 0), (1, [])),
  (132, ([(1, 10, 0), (0, 0, 0), (0, 0, 0), (0, 0, 0), (0, 0, 0)], [(0, 0, 0)], [(1, 4, 0, 0, 5, 0), (1, 7, 0, 0, 1, 0), (1, 13, 0, 0, 11, 0), (1, 10, 0, 5, 5, 0), (1, 0, 0, 0, 250, 0)], 0, 0), (0, [])),
  (133, ([(1, 10, 0), (0, 0, 0), (0, 0, 0), (0, 0, 0), (0, 0, 0)], [], [(1, 4, 0, 0, 5, 0), (1, 7, 0, 0, 1, 0), (1, 13, 0, 0, 11, 0), (1, 10, 0, 6, 6, 0)], 0, 0), (9, [])),
  (134, ([(1, 10, 0), (0, 0, 0), (0, 0, 0), (0, 0, 0), (0, 0, 0)], [(1, 10, 0)], [(1, 4, 0, 0, 5, 0), (1, 7, 0, 0, 1, 0), (1, 13, 0, 0, 11, 0), (1, 10, 0, 6, 6, 0)], 0, 0), (8, [])),
  (137, ([(1, 10, 0), (0, 0, 0), (0, 0, 0), (0, 0, 0), (0, 0, 0)], [(1, 6, 0)], [(1, 4, 0, 0, 5, 0), (1, 7, 0, 0, 1, 0), (1, 13, 0, 0, 11, 0), (1, 10, 0, 6, 6, 0)], 0, 0), (7, []))]
def kd_X10_good_7e6f69_9 : List (Nat × sf_D × sf_M) := [(138, ([(1, 10, 0), (0, 0, 0), (0, 0, 0), (0, 0, 0), (0, 0, 0)], [(1, 10, 0), (1, 6, 0)], [(1, 4, 0, 0, 5, 0), (1, 7, 0, 0, 1, 0), (1, 13, 0, 0, 11, 0), (1, 10, 0, 6, 6, 0)], 0, 0), (6, [])),
  (141, ([(1, 10, 0), (0, 0, 0), (0, 0, 0), (0, 0, 0), (0, 0, 0)], [(1, 7, 0), (1, 6, 0)], [(1, 4, 0, 0, 5, 0), (1, 7, 0, 0, 1, 0), (1, 13, 0, 0, 11, 0), (1, 10, 0, 6, 6, 0)], 0, 0), (5, [])),
  (143, ([(1, 10, 0), (0, 0, 0), (0, 0, 0), (0, 0, 0), (0, 0, 0)], [(0, 0, 0), (1, 7, 0), (1, 6, 0)], [(1, 4, 0, 0, 5, 0), (1, 7, 0, 0, 1, 0), (1, 13, 0, 0, 11, 0), (1, 10, 0, 6, 6, 0), (1, 6, 0, 0, 11, 0), (2, 6, 13, 1, 0, 0)], 0, 0), (4, [])),
  (146, ([(1, 10, 0), (0, 0, 0), (0, 0, 0), (0, 0, 0), (0, 0, 0)], [(0, 0, 0)], [(1, 4, 0, 0, 5, 0), (1, 7, 0, 0, 1, 0), (1, 13, 0, 0, 11, 0), (1, 10, 0, 6, 6, 0), (1, 0, 0, 0, 1, 0)], 0, 0), (3, [])),
  (149, ([(1, 10, 0), (0, 0, 0), (0, 0, 0), (0, 0, 0), (0, 0, 0)], [], [(1, 4, 0, 0, 5, 0), (1, 7, 0, 0, 1, 0), (1, 13, 0, 0, 11, 0), (1, 10, 0, 6, 6, 0)], 0, 0), (2, [])),
  (150, ([(1, 10, 0), (0, 0, 0), (0, 0, 0), (0, 0, 0), (0, 0, 0)], [(0, 0, 0)], [(1, 4, 0, 0, 5, 0), (1, 7, 0, 0, 1, 0), (1, 13, 0, 0, 11, 0), (1, 10, 0, 6, 6, 0), (1, 0, 0, 1, 1, 0)], 0, 0), (1, []))]
def kd_X10_good_7e6f69_10 : List (Nat × sf_D × sf_M) := [(153, ([(1, 10, 0), (0, 0, 0), (0, 0, 0), (0, 0, 0), (0, 0, 0)], [], [(1, 4, 0, 0, 5, 0), (1, 7, 0, 0, 1, 0), (1, 13, 0, 0, 11, 0), (1, 10, 0, 6, 6, 0)], 0, 0), (1, [])),
  (154, ([(1, 10, 0), (0, 0, 0), (0, 0, 0), (0, 0, 0), (0, 0, 0)], [(0, 0, 0)], [(1, 4, 0, 0, 5, 0), (1, 7, 0, 0, 1, 0), (1, 13, 0, 0, 11, 0), (1, 10, 0, 6, 6, 0), (1, 0, 0, 0, 1, 0)], 0, 0), (0, [])),
  (155, ([(1, 10, 0), (0, 0, 0), (0, 0, 0), (0, 0, 0), (0, 0, 0)], [], [(1, 4, 0, 0, 5, 0), (1, 7, 0, 0, 1, 0), (1, 13, 0, 0, 11, 0), (1, 10, 0, 7, 7, 0)], 0, 0), (5, [])),
  (156, ([(1, 10, 0), (0, 0, 0), (0, 0, 0), (0, 0, 0), (0, 0, 0)], [(1, 10, 0)], [(1, 4, 0, 0, 5, 0), (1, 7, 0, 0, 1, 0), (1, 13, 0, 0, 11, 0), (1, 10, 0, 7, 7, 0)], 0, 0), (4, [])),
  (159, ([(1, 10, 0), (0, 0, 0), (0, 0, 0), (0, 0, 0), (0, 0, 0)], [(1, 6, 0)], [(1, 4, 0, 0, 5, 0), (1, 7, 0, 0, 1, 0), (1, 13, 0, 0, 11, 0), (1, 10, 0, 7, 7, 0)], 0, 0), (3, [])),
  (162, ([(1, 10, 0), (0, 0, 0), (0, 0, 0), (0, 0, 0), (0, 0, 0)], [(1, 151, 0)], [(1, 4, 0, 0, 5, 0), (1, 7, 0, 0, 1, 0), (1, 13, 0, 0, 11, 0), (1, 10, 0, 7, 7, 0)], 0, 0), (2, []))]
def kd_X10_good_7e6f69_11 : List (Nat × sf_D × sf_M) := [(164, ([(1, 10, 0), (0, 0, 0), (0, 0, 0), (0, 0, 0), (0, 0, 0)], [(0, 0, 0), (1, 151, 0)], [(1, 4, 0, 0, 5, 0), (1, 7, 0, 0, 1, 0), (1, 13, 0, 0, 11, 0), (1, 10, 0, 7, 7, 0), (1, 3, 0, 0, 11, 0), (2, 3, 13, 1, 0, 0)], 0, 0), (1, [])),
  (165, ([(1, 10, 0), (0, 0, 0), (0, 0, 0), (0, 0, 0), (0, 0, 0)], [(0, 0, 0)], [(1, 4, 0, 0, 5, 0), (1, 7, 0, 0, 1, 0), (1, 13, 0, 0, 11, 0), (1, 10, 0, 7, 7, 0), (1, 0, 0, -2147483648, 2147483647, 0)], 0, 0), (0, [])),
  (166, ([(1, 10, 0), (0, 0, 0), (0, 0, 0), (0, 0, 0), (0, 0, 0)], [], [(1, 4, 0, 0, 5, 0), (1, 7, 0, 0, 1, 0), (1, 13, 0, 0, 11, 0), (1, 10, 0, -2147483648, 2147483647, 0)], 0, 0), (1, [])),
  (167, ([(1, 10, 0), (0, 0, 0), (0, 0, 0), (0, 0, 0), (0, 0, 0)], [(0, 0, 0)], [(1, 4, 0, 0, 5, 0), (1, 7, 0, 0, 1, 0), (1, 13, 0, 0, 11, 0), (1, 10, 0, -2147483648, 2147483647, 0), (1, 0, 0, -1, -1, 0)], 0, 0), (0, []))]
def kd_X10_good_7e6f69 : List (Nat × sf_D × sf_M) := kd_X10_good_7e6f69_0 ++ (kd_X10_good_7e6f69_1 ++ (kd_X10_good_7e6f69_2 ++ (kd_X10_good_7e6f69_3 ++ (kd_X10_good_7e6f69_4 ++ (kd_X10_good_7e6f69_5 ++ (kd_X10_good_7e6f69_6 ++ (kd_X10_good_7e6f69_7 ++ (kd_X10_good_7e6f69_8 ++ (kd_X10_good_7e6f69_9 ++ (kd_X10_good_7e6f69_10 ++ (kd_X10_good_7e6f69_11)))))))))))
set_option maxRecDepth 100000 in
theorem kt_X10_good_7e6f69 : sf_chk [kq_X10_isSlot_57b5ea, kq_X10_slotOf_2f4f15, kq_X7_amountOf_f49f7d, kq_X7_amountOf_db3e55, kq_X7_amountOf_602df6, kq_X6_lackAt_865e4b, kq_X6_isFalse_865e4b] kq_X10_good_7e6f69 5 kc_X10_good_7e6f69 kd_X10_good_7e6f69 = true := by decide +kernel
set_option maxRecDepth 100000 in
theorem kl_X10_good_7e6f69 : (kc_X10_good_7e6f69).map (fun c => (c.1, sf_den ([Z_X10_isSlot, Z_X10_slotOf, Z_X7_amountOf, Z_X7_amountOf, Z_X7_amountOf, Z_X6_lackAt, Z_X6_isFalse] : List sf_X) c.2)) = L_X10_good Z_X10_isSlot Z_X10_slotOf Z_X7_amountOf Z_X6_lackAt Z_X6_isFalse := rfl
theorem ct_X10_good_7e6f69 : sf_ct kq_X10_good_7e6f69 Z_X10_good := by
  have h := sf_meth (K := [kq_X10_isSlot_57b5ea, kq_X10_slotOf_2f4f15, kq_X7_amountOf_f49f7d, kq_X7_amountOf_db3e55, kq_X7_amountOf_602df6, kq_X6_lackAt_865e4b, kq_X6_isFalse_865e4b]) (E := [Z_X10_isSlot, Z_X10_slotOf, Z_X7_amountOf, Z_X7_amountOf, Z_X7_amountOf, Z_X6_lackAt, Z_X6_isFalse]) (k := kq_X10_good_7e6f69) (nL := 5) (C := kc_X10_good_7e6f69) (D := kd_X10_good_7e6f69) (fun m k hk => match m, hk with
    | 0, hk => (Option.some.inj hk) ▸ ct_X10_isSlot_57b5ea
    | 1, hk => (Option.some.inj hk) ▸ ct_X10_slotOf_2f4f15
    | 2, hk => (Option.some.inj hk) ▸ ct_X7_amountOf_f49f7d
    | 3, hk => (Option.some.inj hk) ▸ ct_X7_amountOf_db3e55
    | 4, hk => (Option.some.inj hk) ▸ ct_X7_amountOf_602df6
    | 5, hk => (Option.some.inj hk) ▸ ct_X6_lackAt_865e4b
    | 6, hk => (Option.some.inj hk) ▸ ct_X6_isFalse_865e4b
    | _ + 7, hk => (by cases hk)) kt_X10_good_7e6f69
  rw [kl_X10_good_7e6f69] at h
  exact h
def kq_X10_crossed_57b5ea : sf_Q := ([(1, 10, 0), (0, 0, 0), (0, 0, 0)], [], some (0, 0, 0), [], [])
def kc_X10_crossed_57b5ea : List (Nat × sf_I) := [(0, 4, [1, 0]),
  (1, 2, [2, 1]),
  (2, 2, [3, 2]),
  (3, 32, [6, 0, 3, 10, 0, 0, 0, 0]),
  (6, 20, [9, 25, 0]),
  (9, 4, [10, 0]),
  (10, 23, [13, 10, 4]),
  (13, 23, [16, 6, 3]),
  (16, 2, [17, 1]),
  (17, 2, [18, 2]),
  (18, 31, [21, 1, 2, 0, 0, 0, 0]),
  (21, 25, [22, 1]),
  (22, 22, [26]),
  (25, 0, [26, -1]),
  (26, 35, [0, 0])]
def kd_X10_crossed_57b5ea_0 : List (Nat × sf_D × sf_M) := [(0, ([(1, 10, 0), (0, 0, 0), (0, 0, 0)], [], [], 0, 0), (13, [])),
  (1, ([(1, 10, 0), (0, 0, 0), (0, 0, 0)], [(1, 10, 0)], [], 0, 0), (12, [])),
  (2, ([(1, 10, 0), (0, 0, 0), (0, 0, 0)], [(0, 0, 0), (1, 10, 0)], [(1, 3, 0, -2147483648, 2147483647, 0), (1, 4, 0, -2147483648, 2147483647, 0), (2, 3, 4, 1, 0, 0)], 0, 0), (11, [])),
  (3, ([(1, 10, 0), (0, 0, 0), (0, 0, 0)], [(0, 0, 0), (0, 0, 0), (1, 10, 0)], [(1, 3, 0, -2147483648, 2147483647, 0), (1, 4, 0, -2147483648, 2147483647, 0), (1, 6, 0, -2147483648, 2147483647, 0), (1, 7, 0, -2147483648, 2147483647, 0), (2, 3, 4, 1, 0, 0), (2, 6, 7, 1, 0, 0)], 0, 0), (10, [])),
  (6, ([(1, 10, 0), (0, 0, 0), (0, 0, 0)], [(0, 0, 0)], [(1, 4, 0, -2147483648, 2147483647, 0), (1, 7, 0, -2147483648, 2147483647, 0), (1, 0, 0, 0, 1, 0), (3, 0, 4, 0, 5, 0), (3, 0, 7, 0, 1, 0)], 0, 0), (9, [])),
  (9, ([(1, 10, 0), (0, 0, 0), (0, 0, 0)], [], [(1, 4, 0, 0, 5, 0), (1, 7, 0, 0, 1, 0)], 0, 0), (8, [])),
  (10, ([(1, 10, 0), (0, 0, 0), (0, 0, 0)], [(1, 10, 0)], [(1, 4, 0, 0, 5, 0), (1, 7, 0, 0, 1, 0)], 0, 0), (7, [])),
  (13, ([(1, 10, 0), (0, 0, 0), (0, 0, 0)], [(1, 6, 0)], [(1, 4, 0, 0, 5, 0), (1, 7, 0, 0, 1, 0)], 0, 0), (6, [])),
  (16, ([(1, 10, 0), (0, 0, 0), (0, 0, 0)], [(1, 152, 0)], [(1, 4, 0, 0, 5, 0), (1, 7, 0, 0, 1, 0)], 0, 0), (5, [])),
  (17, ([(1, 10, 0), (0, 0, 0), (0, 0, 0)], [(0, 0, 0), (1, 152, 0)], [(1, 4, 0, 0, 5, 0), (1, 7, 0, 0, 1, 0), (1, 3, 0, 0, 5, 0), (2, 3, 4, 1, 0, 0)], 0, 0), (4, []))]
def kd_X10_crossed_57b5ea_1 : List (Nat × sf_D × sf_M) := [(18, ([(1, 10, 0), (0, 0, 0), (0, 0, 0)], [(0, 0, 0), (0, 0, 0), (1, 152, 0)], [(1, 4, 0, 0, 5, 0), (1, 7, 0, 0, 1, 0), (1, 3, 0, 0, 5, 0), (1, 6, 0, 0, 1, 0), (2, 3, 4, 1, 0, 0), (2, 6, 7, 1, 0, 0)], 0, 0), (3, [])),
  (21, ([(1, 10, 0), (0, 0, 0), (0, 0, 0)], [(0, 0, 0), (1, 152, 0)], [(1, 4, 0, 0, 5, 0), (1, 7, 0, 0, 1, 0), (1, 3, 0, 0, 11, 0)], 0, 0), (2, [])),
  (22, ([(1, 10, 0), (0, 0, 0), (0, 0, 0)], [(0, 0, 0)], [(1, 4, 0, 0, 5, 0), (1, 7, 0, 0, 1, 0), (1, 0, 0, -2147483648, 2147483647, 0)], 0, 0), (1, [])),
  (25, ([(1, 10, 0), (0, 0, 0), (0, 0, 0)], [], [(1, 4, 0, -2147483648, 2147483647, 0), (1, 7, 0, -2147483648, 2147483647, 0)], 0, 0), (1, [])),
  (26, ([(1, 10, 0), (0, 0, 0), (0, 0, 0)], [(0, 0, 0)], [(1, 4, 0, -2147483648, 2147483647, 0), (1, 7, 0, -2147483648, 2147483647, 0), (1, 0, 0, -2147483648, 2147483647, 0)], 0, 0), (0, []))]
def kd_X10_crossed_57b5ea : List (Nat × sf_D × sf_M) := kd_X10_crossed_57b5ea_0 ++ (kd_X10_crossed_57b5ea_1)
set_option maxRecDepth 100000 in
theorem kt_X10_crossed_57b5ea : sf_chk [kq_X10_isSlot_57b5ea, kq_X10_slotOf_2f4f15] kq_X10_crossed_57b5ea 3 kc_X10_crossed_57b5ea kd_X10_crossed_57b5ea = true := by decide +kernel
set_option maxRecDepth 100000 in
theorem kl_X10_crossed_57b5ea : (kc_X10_crossed_57b5ea).map (fun c => (c.1, sf_den ([Z_X10_isSlot, Z_X10_slotOf] : List sf_X) c.2)) = L_X10_crossed Z_X10_isSlot Z_X10_slotOf := rfl
theorem ct_X10_crossed_57b5ea : sf_ct kq_X10_crossed_57b5ea Z_X10_crossed := by
  have h := sf_meth (K := [kq_X10_isSlot_57b5ea, kq_X10_slotOf_2f4f15]) (E := [Z_X10_isSlot, Z_X10_slotOf]) (k := kq_X10_crossed_57b5ea) (nL := 3) (C := kc_X10_crossed_57b5ea) (D := kd_X10_crossed_57b5ea) (fun m k hk => match m, hk with
    | 0, hk => (Option.some.inj hk) ▸ ct_X10_isSlot_57b5ea
    | 1, hk => (Option.some.inj hk) ▸ ct_X10_slotOf_2f4f15
    | _ + 2, hk => (by cases hk)) kt_X10_crossed_57b5ea
  rw [kl_X10_crossed_57b5ea] at h
  exact h
def kq_X10_isMan_0df2a5 : sf_Q := ([(1, 10, 0), (0, 0, 0)], [], some (0, 0, 0), [(1, 0, 0, 0, 1, 0), (3, 0, 6, 0, 7, 0)], [])
def kc_X10_isMan_0df2a5 : List (Nat × sf_I) := [(0, 2, [1, 1]),
  (1, 20, [4, 19, 2]),
  (4, 2, [5, 1]),
  (5, 4, [6, 0]),
  (6, 23, [9, 10, 13]),
  (9, 23, [12, 7, 9]),
  (12, 21, [15, 19, 5]),
  (15, 0, [16, 1]),
  (16, 22, [20]),
  (19, 0, [20, 0]),
  (20, 36, [0, 0])]
def kd_X10_isMan_0df2a5 : List (Nat × sf_D × sf_M) := [(0, ([(1, 10, 0), (0, 0, 0)], [], [], 0, 0), (9, [])),
  (1, ([(1, 10, 0), (0, 0, 0)], [(0, 0, 0)], [(1, 0, 0, -2147483648, 2147483647, 0), (1, 4, 0, -2147483648, 2147483647, 0), (2, 0, 4, 1, 0, 0)], 0, 0), (8, [])),
  (4, ([(1, 10, 0), (0, 0, 0)], [], [(1, 4, 0, 0, 2147483647, 0)], 0, 0), (7, [])),
  (5, ([(1, 10, 0), (0, 0, 0)], [(0, 0, 0)], [(1, 4, 0, 0, 2147483647, 0), (1, 0, 0, 0, 2147483647, 0), (2, 0, 4, 1, 0, 0)], 0, 0), (6, [])),
  (6, ([(1, 10, 0), (0, 0, 0)], [(1, 10, 0), (0, 0, 0)], [(1, 4, 0, 0, 2147483647, 0), (1, 0, 0, 0, 2147483647, 0), (2, 0, 4, 1, 0, 0)], 0, 0), (5, [])),
  (9, ([(1, 10, 0), (0, 0, 0)], [(1, 7, 0), (0, 0, 0)], [(1, 4, 0, 0, 2147483647, 0), (1, 0, 0, 0, 2147483647, 0), (2, 0, 4, 1, 0, 0)], 0, 0), (4, [])),
  (12, ([(1, 10, 0), (0, 0, 0)], [(0, 0, 8), (0, 0, 0)], [(1, 4, 0, 0, 2147483647, 0), (1, 0, 0, 0, 2147483647, 0), (1, 3, 0, 0, 8, 0), (2, 0, 4, 1, 0, 0)], 0, 0), (3, [])),
  (15, ([(1, 10, 0), (0, 0, 0)], [], [(1, 4, 0, 0, 7, 0)], 0, 0), (2, [])),
  (16, ([(1, 10, 0), (0, 0, 0)], [(0, 0, 0)], [(1, 4, 0, 0, 7, 0), (1, 0, 0, 1, 1, 0)], 0, 0), (1, [])),
  (19, ([(1, 10, 0), (0, 0, 0)], [], [(1, 4, 0, -2147483648, 2147483647, 0)], 0, 0), (1, [])),
  (20, ([(1, 10, 0), (0, 0, 0)], [(0, 0, 0)], [(1, 4, 0, -2147483648, 2147483647, 0), (1, 0, 0, 0, 1, 0), (3, 0, 4, 0, 7, 0)], 0, 0), (0, []))]
set_option maxRecDepth 100000 in
theorem kt_X10_isMan_0df2a5 : sf_chk [] kq_X10_isMan_0df2a5 2 kc_X10_isMan_0df2a5 kd_X10_isMan_0df2a5 = true := by decide +kernel
set_option maxRecDepth 100000 in
theorem kl_X10_isMan_0df2a5 : (kc_X10_isMan_0df2a5).map (fun c => (c.1, sf_den ([] : List sf_X) c.2)) = L_X10_isMan := rfl
theorem ct_X10_isMan_0df2a5 : sf_ct kq_X10_isMan_0df2a5 Z_X10_isMan := by
  have h := sf_meth (K := []) (E := []) (k := kq_X10_isMan_0df2a5) (nL := 2) (C := kc_X10_isMan_0df2a5) (D := kd_X10_isMan_0df2a5) (fun m k hk => match m, hk with
    | _ + 0, hk => (by cases hk)) kt_X10_isMan_0df2a5
  rw [kl_X10_isMan_0df2a5] at h
  exact h
def kq_X6_isAlive_a7a9b3 : sf_Q := ([(1, 6, 0), (0, 0, 0)], [(1, 3, 0, 0, 7, 0)], some (0, 0, 0), [(1, 0, 0, 0, 1, 0)], [])
def kc_X6_isAlive_a7a9b3 : List (Nat × sf_I) := [(0, 4, [1, 0]),
  (1, 23, [4, 6, 4]),
  (4, 2, [5, 1]),
  (5, 25, [6, 1]),
  (6, 0, [7, -1]),
  (7, 21, [10, 14, 0]),
  (10, 0, [11, 1]),
  (11, 22, [15]),
  (14, 0, [15, 0]),
  (15, 36, [0, 0])]
def kd_X6_isAlive_a7a9b3 : List (Nat × sf_D × sf_M) := [(0, ([(1, 6, 0), (0, 0, 0)], [], [(1, 4, 0, 0, 7, 0)], 0, 0), (8, [])),
  (1, ([(1, 6, 0), (0, 0, 0)], [(1, 6, 0)], [(1, 4, 0, 0, 7, 0)], 0, 0), (7, [])),
  (4, ([(1, 6, 0), (0, 0, 0)], [(1, 153, 0)], [(1, 4, 0, 0, 7, 0)], 0, 0), (6, [])),
  (5, ([(1, 6, 0), (0, 0, 0)], [(0, 0, 0), (1, 153, 0)], [(1, 4, 0, 0, 7, 0), (1, 3, 0, 0, 7, 0), (2, 3, 4, 1, 0, 0)], 0, 0), (5, [])),
  (6, ([(1, 6, 0), (0, 0, 0)], [(0, 0, 0)], [(1, 4, 0, 0, 7, 0), (1, 0, 0, -2147483648, 2147483647, 0)], 0, 0), (4, [])),
  (7, ([(1, 6, 0), (0, 0, 0)], [(0, 0, 0), (0, 0, 0)], [(1, 4, 0, 0, 7, 0), (1, 0, 0, -2147483648, 2147483647, 0), (1, 3, 0, -1, -1, 0)], 0, 0), (3, [])),
  (10, ([(1, 6, 0), (0, 0, 0)], [], [(1, 4, 0, 0, 7, 0)], 0, 0), (2, [])),
  (11, ([(1, 6, 0), (0, 0, 0)], [(0, 0, 0)], [(1, 4, 0, 0, 7, 0), (1, 0, 0, 1, 1, 0)], 0, 0), (1, [])),
  (14, ([(1, 6, 0), (0, 0, 0)], [], [(1, 4, 0, 0, 7, 0)], 0, 0), (1, [])),
  (15, ([(1, 6, 0), (0, 0, 0)], [(0, 0, 0)], [(1, 4, 0, 0, 7, 0), (1, 0, 0, 0, 1, 0)], 0, 0), (0, []))]
set_option maxRecDepth 100000 in
theorem kt_X6_isAlive_a7a9b3 : sf_chk [] kq_X6_isAlive_a7a9b3 2 kc_X6_isAlive_a7a9b3 kd_X6_isAlive_a7a9b3 = true := by decide +kernel
set_option maxRecDepth 100000 in
theorem kl_X6_isAlive_a7a9b3 : (kc_X6_isAlive_a7a9b3).map (fun c => (c.1, sf_den ([] : List sf_X) c.2)) = L_X6_isAlive := rfl
theorem ct_X6_isAlive_a7a9b3 : sf_ct kq_X6_isAlive_a7a9b3 Z_X6_isAlive := by
  have h := sf_meth (K := []) (E := []) (k := kq_X6_isAlive_a7a9b3) (nL := 2) (C := kc_X6_isAlive_a7a9b3) (D := kd_X6_isAlive_a7a9b3) (fun m k hk => match m, hk with
    | _ + 0, hk => (by cases hk)) kt_X6_isAlive_a7a9b3
  rw [kl_X6_isAlive_a7a9b3] at h
  exact h
def kq_X10_areLivingTwo_57b5ea : sf_Q := ([(1, 10, 0), (0, 0, 0), (0, 0, 0)], [], some (0, 0, 0), [(1, 0, 0, 0, 1, 0), (3, 0, 6, 0, 7, 0), (3, 0, 9, 0, 7, 0)], [])
def kc_X10_areLivingTwo_57b5ea : List (Nat × sf_I) := [(0, 4, [1, 0]),
  (1, 2, [2, 1]),
  (2, 32, [5, 0, 2, 10, 0, 0, 0, 0]),
  (5, 20, [8, 47, 0]),
  (8, 4, [9, 0]),
  (9, 2, [10, 2]),
  (10, 32, [13, 0, 2, 10, 0, 0, 0, 0]),
  (13, 20, [16, 47, 0]),
  (16, 2, [17, 1]),
  (17, 2, [18, 2]),
  (18, 21, [21, 47, 0]),
  (21, 4, [22, 0]),
  (22, 23, [25, 10, 4]),
  (25, 2, [26, 1]),
  (26, 32, [29, 1, 2, 6, 0, 0, 0, 0]),
  (29, 20, [32, 47, 0]),
  (32, 4, [33, 0]),
  (33, 23, [36, 10, 4]),
  (36, 2, [37, 2]),
  (37, 32, [40, 1, 2, 6, 0, 0, 0, 0]),
  (40, 20, [43, 47, 0]),
  (43, 0, [44, 1]),
  (44, 22, [48]),
  (47, 0, [48, 0]),
  (48, 36, [0, 0])]
def kd_X10_areLivingTwo_57b5ea_0 : List (Nat × sf_D × sf_M) := [(0, ([(1, 10, 0), (0, 0, 0), (0, 0, 0)], [], [], 0, 0), (23, [])),
  (1, ([(1, 10, 0), (0, 0, 0), (0, 0, 0)], [(1, 10, 0)], [], 0, 0), (22, [])),
  (2, ([(1, 10, 0), (0, 0, 0), (0, 0, 0)], [(0, 0, 0), (1, 10, 0)], [(1, 3, 0, -2147483648, 2147483647, 0), (1, 4, 0, -2147483648, 2147483647, 0), (2, 3, 4, 1, 0, 0)], 0, 0), (21, [])),
  (5, ([(1, 10, 0), (0, 0, 0), (0, 0, 0)], [(0, 0, 0)], [(1, 4, 0, -2147483648, 2147483647, 0), (1, 0, 0, 0, 1, 0), (3, 0, 4, 0, 7, 0)], 0, 0), (20, [])),
  (8, ([(1, 10, 0), (0, 0, 0), (0, 0, 0)], [], [(1, 4, 0, 0, 7, 0)], 0, 0), (19, [])),
  (9, ([(1, 10, 0), (0, 0, 0), (0, 0, 0)], [(1, 10, 0)], [(1, 4, 0, 0, 7, 0)], 0, 0), (18, [])),
  (10, ([(1, 10, 0), (0, 0, 0), (0, 0, 0)], [(0, 0, 0), (1, 10, 0)], [(1, 4, 0, 0, 7, 0), (1, 3, 0, -2147483648, 2147483647, 0), (1, 7, 0, -2147483648, 2147483647, 0), (2, 3, 7, 1, 0, 0)], 0, 0), (17, [])),
  (13, ([(1, 10, 0), (0, 0, 0), (0, 0, 0)], [(0, 0, 0)], [(1, 4, 0, 0, 7, 0), (1, 7, 0, -2147483648, 2147483647, 0), (1, 0, 0, 0, 1, 0), (3, 0, 7, 0, 7, 0)], 0, 0), (16, [])),
  (16, ([(1, 10, 0), (0, 0, 0), (0, 0, 0)], [], [(1, 4, 0, 0, 7, 0), (1, 7, 0, 0, 7, 0)], 0, 0), (15, [])),
  (17, ([(1, 10, 0), (0, 0, 0), (0, 0, 0)], [(0, 0, 0)], [(1, 4, 0, 0, 7, 0), (1, 7, 0, 0, 7, 0), (1, 0, 0, 0, 7, 0), (2, 0, 4, 1, 0, 0)], 0, 0), (14, [])),
  (18, ([(1, 10, 0), (0, 0, 0), (0, 0, 0)], [(0, 0, 0), (0, 0, 0)], [(1, 4, 0, 0, 7, 0), (1, 7, 0, 0, 7, 0), (1, 0, 0, 0, 7, 0), (1, 3, 0, 0, 7, 0), (2, 0, 4, 1, 0, 0), (2, 3, 7, 1, 0, 0)], 0, 0), (13, []))]
def kd_X10_areLivingTwo_57b5ea_1 : List (Nat × sf_D × sf_M) := [(21, ([(1, 10, 0), (0, 0, 0), (0, 0, 0)], [], [(1, 4, 0, 0, 7, 0), (1, 7, 0, 0, 7, 0)], 0, 0), (12, [])),
  (22, ([(1, 10, 0), (0, 0, 0), (0, 0, 0)], [(1, 10, 0)], [(1, 4, 0, 0, 7, 0), (1, 7, 0, 0, 7, 0)], 0, 0), (11, [])),
  (25, ([(1, 10, 0), (0, 0, 0), (0, 0, 0)], [(1, 6, 0)], [(1, 4, 0, 0, 7, 0), (1, 7, 0, 0, 7, 0)], 0, 0), (10, [])),
  (26, ([(1, 10, 0), (0, 0, 0), (0, 0, 0)], [(0, 0, 0), (1, 6, 0)], [(1, 4, 0, 0, 7, 0), (1, 7, 0, 0, 7, 0), (1, 3, 0, 0, 7, 0), (2, 3, 4, 1, 0, 0)], 0, 0), (9, [])),
  (29, ([(1, 10, 0), (0, 0, 0), (0, 0, 0)], [(0, 0, 0)], [(1, 4, 0, 0, 7, 0), (1, 7, 0, 0, 7, 0), (1, 0, 0, 0, 1, 0)], 0, 0), (8, [])),
  (32, ([(1, 10, 0), (0, 0, 0), (0, 0, 0)], [], [(1, 4, 0, 0, 7, 0), (1, 7, 0, 0, 7, 0)], 0, 0), (7, [])),
  (33, ([(1, 10, 0), (0, 0, 0), (0, 0, 0)], [(1, 10, 0)], [(1, 4, 0, 0, 7, 0), (1, 7, 0, 0, 7, 0)], 0, 0), (6, [])),
  (36, ([(1, 10, 0), (0, 0, 0), (0, 0, 0)], [(1, 6, 0)], [(1, 4, 0, 0, 7, 0), (1, 7, 0, 0, 7, 0)], 0, 0), (5, [])),
  (37, ([(1, 10, 0), (0, 0, 0), (0, 0, 0)], [(0, 0, 0), (1, 6, 0)], [(1, 4, 0, 0, 7, 0), (1, 7, 0, 0, 7, 0), (1, 3, 0, 0, 7, 0), (2, 3, 7, 1, 0, 0)], 0, 0), (4, [])),
  (40, ([(1, 10, 0), (0, 0, 0), (0, 0, 0)], [(0, 0, 0)], [(1, 4, 0, 0, 7, 0), (1, 7, 0, 0, 7, 0), (1, 0, 0, 0, 1, 0)], 0, 0), (3, [])),
  (43, ([(1, 10, 0), (0, 0, 0), (0, 0, 0)], [], [(1, 4, 0, 0, 7, 0), (1, 7, 0, 0, 7, 0)], 0, 0), (2, []))]
def kd_X10_areLivingTwo_57b5ea_2 : List (Nat × sf_D × sf_M) := [(44, ([(1, 10, 0), (0, 0, 0), (0, 0, 0)], [(0, 0, 0)], [(1, 4, 0, 0, 7, 0), (1, 7, 0, 0, 7, 0), (1, 0, 0, 1, 1, 0)], 0, 0), (1, [])),
  (47, ([(1, 10, 0), (0, 0, 0), (0, 0, 0)], [], [(1, 4, 0, -2147483648, 2147483647, 0)], 0, 0), (1, [])),
  (48, ([(1, 10, 0), (0, 0, 0), (0, 0, 0)], [(0, 0, 0)], [(1, 4, 0, -2147483648, 2147483647, 0), (1, 0, 0, 0, 1, 0), (3, 0, 4, 0, 7, 0), (3, 0, 7, 0, 7, 0)], 0, 0), (0, []))]
def kd_X10_areLivingTwo_57b5ea : List (Nat × sf_D × sf_M) := kd_X10_areLivingTwo_57b5ea_0 ++ (kd_X10_areLivingTwo_57b5ea_1 ++ (kd_X10_areLivingTwo_57b5ea_2))
set_option maxRecDepth 100000 in
theorem kt_X10_areLivingTwo_57b5ea : sf_chk [kq_X10_isMan_0df2a5, kq_X6_isAlive_a7a9b3] kq_X10_areLivingTwo_57b5ea 3 kc_X10_areLivingTwo_57b5ea kd_X10_areLivingTwo_57b5ea = true := by decide +kernel
set_option maxRecDepth 100000 in
theorem kl_X10_areLivingTwo_57b5ea : (kc_X10_areLivingTwo_57b5ea).map (fun c => (c.1, sf_den ([Z_X10_isMan, Z_X6_isAlive] : List sf_X) c.2)) = L_X10_areLivingTwo Z_X10_isMan Z_X6_isAlive := rfl
theorem ct_X10_areLivingTwo_57b5ea : sf_ct kq_X10_areLivingTwo_57b5ea Z_X10_areLivingTwo := by
  have h := sf_meth (K := [kq_X10_isMan_0df2a5, kq_X6_isAlive_a7a9b3]) (E := [Z_X10_isMan, Z_X6_isAlive]) (k := kq_X10_areLivingTwo_57b5ea) (nL := 3) (C := kc_X10_areLivingTwo_57b5ea) (D := kd_X10_areLivingTwo_57b5ea) (fun m k hk => match m, hk with
    | 0, hk => (Option.some.inj hk) ▸ ct_X10_isMan_0df2a5
    | 1, hk => (Option.some.inj hk) ▸ ct_X6_isAlive_a7a9b3
    | _ + 2, hk => (by cases hk)) kt_X10_areLivingTwo_57b5ea
  rw [kl_X10_areLivingTwo_57b5ea] at h
  exact h
def kq_X10_apart_57b5ea : sf_Q := ([(1, 10, 0), (0, 0, 0), (0, 0, 0)], [], some (0, 0, 0), [], [])
def kc_X10_apart_57b5ea : List (Nat × sf_I) := [(0, 4, [1, 0]),
  (1, 2, [2, 1]),
  (2, 2, [3, 2]),
  (3, 32, [6, 0, 3, 10, 0, 0, 0, 0]),
  (6, 20, [9, 21, 0]),
  (9, 4, [10, 0]),
  (10, 23, [13, 10, 4]),
  (13, 2, [14, 1]),
  (14, 2, [15, 2]),
  (15, 32, [18, 1, 3, 6, 0, 0, 0, 0]),
  (18, 22, [22]),
  (21, 0, [22, -1]),
  (22, 35, [0, 0])]
def kd_X10_apart_57b5ea_0 : List (Nat × sf_D × sf_M) := [(0, ([(1, 10, 0), (0, 0, 0), (0, 0, 0)], [], [], 0, 0), (11, [])),
  (1, ([(1, 10, 0), (0, 0, 0), (0, 0, 0)], [(1, 10, 0)], [], 0, 0), (10, [])),
  (2, ([(1, 10, 0), (0, 0, 0), (0, 0, 0)], [(0, 0, 0), (1, 10, 0)], [(1, 3, 0, -2147483648, 2147483647, 0), (1, 4, 0, -2147483648, 2147483647, 0), (2, 3, 4, 1, 0, 0)], 0, 0), (9, [])),
  (3, ([(1, 10, 0), (0, 0, 0), (0, 0, 0)], [(0, 0, 0), (0, 0, 0), (1, 10, 0)], [(1, 3, 0, -2147483648, 2147483647, 0), (1, 4, 0, -2147483648, 2147483647, 0), (1, 6, 0, -2147483648, 2147483647, 0), (1, 7, 0, -2147483648, 2147483647, 0), (2, 3, 4, 1, 0, 0), (2, 6, 7, 1, 0, 0)], 0, 0), (8, [])),
  (6, ([(1, 10, 0), (0, 0, 0), (0, 0, 0)], [(0, 0, 0)], [(1, 4, 0, -2147483648, 2147483647, 0), (1, 7, 0, -2147483648, 2147483647, 0), (1, 0, 0, 0, 1, 0), (3, 0, 4, 0, 7, 0), (3, 0, 7, 0, 7, 0)], 0, 0), (7, [])),
  (9, ([(1, 10, 0), (0, 0, 0), (0, 0, 0)], [], [(1, 4, 0, 0, 7, 0), (1, 7, 0, 0, 7, 0)], 0, 0), (6, [])),
  (10, ([(1, 10, 0), (0, 0, 0), (0, 0, 0)], [(1, 10, 0)], [(1, 4, 0, 0, 7, 0), (1, 7, 0, 0, 7, 0)], 0, 0), (5, [])),
  (13, ([(1, 10, 0), (0, 0, 0), (0, 0, 0)], [(1, 6, 0)], [(1, 4, 0, 0, 7, 0), (1, 7, 0, 0, 7, 0)], 0, 0), (4, [])),
  (14, ([(1, 10, 0), (0, 0, 0), (0, 0, 0)], [(0, 0, 0), (1, 6, 0)], [(1, 4, 0, 0, 7, 0), (1, 7, 0, 0, 7, 0), (1, 3, 0, 0, 7, 0), (2, 3, 4, 1, 0, 0)], 0, 0), (3, [])),
  (15, ([(1, 10, 0), (0, 0, 0), (0, 0, 0)], [(0, 0, 0), (0, 0, 0), (1, 6, 0)], [(1, 4, 0, 0, 7, 0), (1, 7, 0, 0, 7, 0), (1, 3, 0, 0, 7, 0), (1, 6, 0, 0, 7, 0), (2, 3, 4, 1, 0, 0), (2, 6, 7, 1, 0, 0)], 0, 0), (2, []))]
def kd_X10_apart_57b5ea_1 : List (Nat × sf_D × sf_M) := [(18, ([(1, 10, 0), (0, 0, 0), (0, 0, 0)], [(0, 0, 0)], [(1, 4, 0, 0, 7, 0), (1, 7, 0, 0, 7, 0), (1, 0, 0, -2147483648, 2147483647, 0)], 0, 0), (1, [])),
  (21, ([(1, 10, 0), (0, 0, 0), (0, 0, 0)], [], [(1, 4, 0, -2147483648, 2147483647, 0), (1, 7, 0, -2147483648, 2147483647, 0)], 0, 0), (1, [])),
  (22, ([(1, 10, 0), (0, 0, 0), (0, 0, 0)], [(0, 0, 0)], [(1, 4, 0, -2147483648, 2147483647, 0), (1, 7, 0, -2147483648, 2147483647, 0), (1, 0, 0, -2147483648, 2147483647, 0)], 0, 0), (0, []))]
def kd_X10_apart_57b5ea : List (Nat × sf_D × sf_M) := kd_X10_apart_57b5ea_0 ++ (kd_X10_apart_57b5ea_1)
set_option maxRecDepth 100000 in
theorem kt_X10_apart_57b5ea : sf_chk [kq_X10_areLivingTwo_57b5ea, kq_X6_apartOf_605951] kq_X10_apart_57b5ea 3 kc_X10_apart_57b5ea kd_X10_apart_57b5ea = true := by decide +kernel
set_option maxRecDepth 100000 in
theorem kl_X10_apart_57b5ea : (kc_X10_apart_57b5ea).map (fun c => (c.1, sf_den ([Z_X10_areLivingTwo, Z_X6_apartOf] : List sf_X) c.2)) = L_X10_apart Z_X10_areLivingTwo Z_X6_apartOf := rfl
theorem ct_X10_apart_57b5ea : sf_ct kq_X10_apart_57b5ea Z_X10_apart := by
  have h := sf_meth (K := [kq_X10_areLivingTwo_57b5ea, kq_X6_apartOf_605951]) (E := [Z_X10_areLivingTwo, Z_X6_apartOf]) (k := kq_X10_apart_57b5ea) (nL := 3) (C := kc_X10_apart_57b5ea) (D := kd_X10_apart_57b5ea) (fun m k hk => match m, hk with
    | 0, hk => (Option.some.inj hk) ▸ ct_X10_areLivingTwo_57b5ea
    | 1, hk => (Option.some.inj hk) ▸ ct_X6_apartOf_605951
    | _ + 2, hk => (by cases hk)) kt_X10_apart_57b5ea
  rw [kl_X10_apart_57b5ea] at h
  exact h
def kq_X6_ferryShore_7c23bc : sf_Q := ([(1, 6, 0)], [], some (0, 0, 0), [(1, 0, 0, 0, 1, 0)], [])
def kc_X6_ferryShore_7c23bc : List (Nat × sf_I) := [(0, 4, [1, 0]),
  (1, 23, [4, 6, 7]),
  (4, 0, [5, 2]),
  (5, 10, [6]),
  (6, 35, [0, 0])]
def kd_X6_ferryShore_7c23bc : List (Nat × sf_D × sf_M) := [(0, ([(1, 6, 0)], [], [], 0, 0), (4, [])),
  (1, ([(1, 6, 0)], [(1, 6, 0)], [], 0, 0), (3, [])),
  (4, ([(1, 6, 0)], [(0, 0, 400)], [(1, 0, 0, 0, 400, 0), (1, 21023, 0, -2147483648, 2147483647, 0), (2, 0, 21023, 1, 0, 0)], 0, 0), (2, [])),
  (5, ([(1, 6, 0)], [(0, 0, 0), (0, 0, 400)], [(1, 0, 0, 0, 400, 0), (1, 21023, 0, -2147483648, 2147483647, 0), (1, 3, 0, 2, 2, 0), (2, 0, 21023, 1, 0, 0)], 0, 0), (1, [])),
  (6, ([(1, 6, 0)], [(0, 0, 0)], [(1, 21023, 0, -2147483648, 2147483647, 0), (1, 0, 0, 0, 1, 0)], 0, 0), (0, []))]
set_option maxRecDepth 100000 in
theorem kt_X6_ferryShore_7c23bc : sf_chk [] kq_X6_ferryShore_7c23bc 1 kc_X6_ferryShore_7c23bc kd_X6_ferryShore_7c23bc = true := by decide +kernel
set_option maxRecDepth 100000 in
theorem kl_X6_ferryShore_7c23bc : (kc_X6_ferryShore_7c23bc).map (fun c => (c.1, sf_den ([] : List sf_X) c.2)) = L_X6_ferryShore := rfl
theorem ct_X6_ferryShore_7c23bc : sf_ct kq_X6_ferryShore_7c23bc Z_X6_ferryShore := by
  have h := sf_meth (K := []) (E := []) (k := kq_X6_ferryShore_7c23bc) (nL := 1) (C := kc_X6_ferryShore_7c23bc) (D := kd_X6_ferryShore_7c23bc) (fun m k hk => match m, hk with
    | _ + 0, hk => (by cases hk)) kt_X6_ferryShore_7c23bc
  rw [kl_X6_ferryShore_7c23bc] at h
  exact h
def kq_X6_menOn_ef252d : sf_Q := ([(1, 6, 0), (1, 7, 0), (0, 0, 0)], [(1, 6, 0, 0, 0, 0)], some (0, 0, 0), [], [])
def kc_X6_menOn_ef252d : List (Nat × sf_I) := [(0, 0, [1, 0]),
  (1, 5, [2, 3]),
  (2, 0, [3, 0]),
  (3, 5, [5, 4]),
  (5, 2, [7, 4]),
  (7, 4, [8, 1]),
  (8, 23, [11, 7, 9]),
  (11, 21, [14, 38, 5]),
  (14, 4, [15, 0]),
  (15, 23, [18, 6, 4]),
  (18, 2, [20, 4]),
  (20, 25, [21, 1]),
  (21, 2, [22, 2]),
  (22, 21, [25, 32, 1]),
  (25, 2, [26, 3]),
  (26, 0, [27, 1]),
  (27, 2, [29, 4]),
  (29, 9, [30, 6]),
  (30, 9, [31, 4]),
  (31, 5, [32, 3]),
  (32, 8, [35, 4, 1]),
  (35, 22, [5]),
  (38, 2, [39, 3]),
  (39, 35, [0, 0])]
def kd_X6_menOn_ef252d_0 : List (Nat × sf_D × sf_M) := [(0, ([(1, 6, 0), (1, 7, 0), (0, 0, 0), (8, 0, 0), (8, 0, 0)], [], [(1, 7, 0, 0, 0, 0)], 0, 0), (180, [])),
  (1, ([(1, 6, 0), (1, 7, 0), (0, 0, 0), (8, 0, 0), (8, 0, 0)], [(0, 0, 0)], [(1, 7, 0, 0, 0, 0), (1, 0, 0, 0, 0, 0)], 0, 0), (179, [])),
  (2, ([(1, 6, 0), (1, 7, 0), (0, 0, 0), (0, 0, 0), (8, 0, 0)], [], [(1, 7, 0, 0, 0, 0), (1, 10, 0, 0, 0, 0)], 0, 0), (178, [])),
  (3, ([(1, 6, 0), (1, 7, 0), (0, 0, 0), (0, 0, 0), (8, 0, 0)], [(0, 0, 0)], [(1, 7, 0, 0, 0, 0), (1, 10, 0, 0, 0, 0), (1, 0, 0, 0, 0, 0)], 0, 0), (177, [])),
  (5, ([(1, 6, 0), (1, 7, 0), (0, 0, 0), (0, 0, 0), (0, 0, 0)], [], [(1, 7, 0, 0, 0, 0), (1, 10, 0, -2147483648, 2147483647, 0), (1, 13, 0, 0, 8, 0)], 0, 0), (16, [(20, 13, 8, 0)])),
  (7, ([(1, 6, 0), (1, 7, 0), (0, 0, 0), (0, 0, 0), (0, 0, 0)], [(0, 0, 0)], [(1, 7, 0, 0, 0, 0), (1, 10, 0, -2147483648, 2147483647, 0), (1, 13, 0, 0, 8, 0), (1, 0, 0, 0, 8, 0), (2, 0, 13, 1, 0, 0)], 0, 0), (15, [(20, 13, 8, 0)])),
  (8, ([(1, 6, 0), (1, 7, 0), (0, 0, 0), (0, 0, 0), (0, 0, 0)], [(1, 7, 0), (0, 0, 0)], [(1, 7, 0, 0, 0, 0), (1, 10, 0, -2147483648, 2147483647, 0), (1, 13, 0, 0, 8, 0), (1, 0, 0, 0, 8, 0), (2, 0, 13, 1, 0, 0)], 0, 0), (14, [(20, 13, 8, 0)]))]
def kd_X6_menOn_ef252d_1 : List (Nat × sf_D × sf_M) := [(11, ([(1, 6, 0), (1, 7, 0), (0, 0, 0), (0, 0, 0), (0, 0, 0)], [(0, 0, 8), (0, 0, 0)], [(1, 7, 0, 0, 0, 0), (1, 10, 0, -2147483648, 2147483647, 0), (1, 13, 0, 0, 8, 0), (1, 0, 0, 0, 8, 0), (1, 3, 0, 0, 8, 0), (2, 0, 13, 1, 0, 0)], 0, 0), (13, [(20, 13, 8, 0)])),
  (14, ([(1, 6, 0), (1, 7, 0), (0, 0, 0), (0, 0, 0), (0, 0, 0)], [], [(1, 7, 0, 0, 0, 0), (1, 10, 0, -2147483648, 2147483647, 0), (1, 13, 0, 0, 7, 0)], 0, 0), (12, [(20, 13, 8, 0)])),
  (15, ([(1, 6, 0), (1, 7, 0), (0, 0, 0), (0, 0, 0), (0, 0, 0)], [(1, 6, 0)], [(1, 7, 0, 0, 0, 0), (1, 10, 0, -2147483648, 2147483647, 0), (1, 13, 0, 0, 7, 0)], 0, 0), (11, [(20, 13, 8, 0)])),
  (18, ([(1, 6, 0), (1, 7, 0), (0, 0, 0), (0, 0, 0), (0, 0, 0)], [(1, 153, 0)], [(1, 7, 0, 0, 0, 0), (1, 10, 0, -2147483648, 2147483647, 0), (1, 13, 0, 0, 7, 0)], 0, 0), (10, [(20, 13, 8, 0)])),
  (20, ([(1, 6, 0), (1, 7, 0), (0, 0, 0), (0, 0, 0), (0, 0, 0)], [(0, 0, 0), (1, 153, 0)], [(1, 7, 0, 0, 0, 0), (1, 10, 0, -2147483648, 2147483647, 0), (1, 13, 0, 0, 7, 0), (1, 3, 0, 0, 7, 0), (2, 3, 13, 1, 0, 0)], 0, 0), (9, [(20, 13, 8, 0)])),
  (21, ([(1, 6, 0), (1, 7, 0), (0, 0, 0), (0, 0, 0), (0, 0, 0)], [(0, 0, 0)], [(1, 7, 0, 0, 0, 0), (1, 10, 0, -2147483648, 2147483647, 0), (1, 13, 0, 0, 7, 0), (1, 0, 0, -2147483648, 2147483647, 0)], 0, 0), (8, [(20, 13, 8, 0)]))]
def kd_X6_menOn_ef252d_2 : List (Nat × sf_D × sf_M) := [(22, ([(1, 6, 0), (1, 7, 0), (0, 0, 0), (0, 0, 0), (0, 0, 0)], [(0, 0, 0), (0, 0, 0)], [(1, 7, 0, 0, 0, 0), (1, 10, 0, -2147483648, 2147483647, 0), (1, 13, 0, 0, 7, 0), (1, 0, 0, -2147483648, 2147483647, 0), (1, 3, 0, 0, 0, 0), (2, 3, 7, 1, 0, 0)], 0, 0), (7, [(20, 13, 8, 0)])),
  (25, ([(1, 6, 0), (1, 7, 0), (0, 0, 0), (0, 0, 0), (0, 0, 0)], [], [(1, 7, 0, 0, 0, 0), (1, 10, 0, -2147483648, 2147483647, 0), (1, 13, 0, 0, 7, 0)], 0, 0), (6, [(20, 13, 8, 0)])),
  (26, ([(1, 6, 0), (1, 7, 0), (0, 0, 0), (0, 0, 0), (0, 0, 0)], [(0, 0, 0)], [(1, 7, 0, 0, 0, 0), (1, 10, 0, -2147483648, 2147483647, 0), (1, 13, 0, 0, 7, 0), (1, 0, 0, -2147483648, 2147483647, 0), (2, 0, 10, 1, 0, 0)], 0, 0), (5, [(20, 13, 8, 0)])),
  (27, ([(1, 6, 0), (1, 7, 0), (0, 0, 0), (0, 0, 0), (0, 0, 0)], [(0, 0, 0), (0, 0, 0)], [(1, 7, 0, 0, 0, 0), (1, 10, 0, -2147483648, 2147483647, 0), (1, 13, 0, 0, 7, 0), (1, 0, 0, -2147483648, 2147483647, 0), (1, 3, 0, 1, 1, 0), (2, 0, 10, 1, 0, 0)], 0, 0), (4, [(20, 13, 8, 0)])),
  (29, ([(1, 6, 0), (1, 7, 0), (0, 0, 0), (0, 0, 0), (0, 0, 0)], [(0, 0, 0), (0, 0, 0), (0, 0, 0)], [(1, 7, 0, 0, 0, 0), (1, 10, 0, -2147483648, 2147483647, 0), (1, 13, 0, 0, 7, 0), (1, 0, 0, -2147483648, 2147483647, 0), (1, 3, 0, 1, 1, 0), (1, 6, 0, 0, 7, 0), (2, 0, 10, 1, 0, 0), (2, 6, 13, 1, 0, 0)], 0, 0), (3, [(20, 13, 8, 0)]))]
def kd_X6_menOn_ef252d_3 : List (Nat × sf_D × sf_M) := [(30, ([(1, 6, 0), (1, 7, 0), (0, 0, 0), (0, 0, 0), (0, 0, 0)], [(0, 0, 0), (0, 0, 0)], [(1, 7, 0, 0, 0, 0), (1, 10, 0, -2147483648, 2147483647, 0), (1, 13, 0, 0, 7, 0), (1, 0, 0, -2147483648, 2147483647, 0), (1, 3, 0, -2147483648, 2147483647, 0), (2, 0, 10, 1, 0, 0)], 0, 0), (2, [(20, 13, 8, 0)])),
  (31, ([(1, 6, 0), (1, 7, 0), (0, 0, 0), (0, 0, 0), (0, 0, 0)], [(0, 0, 0)], [(1, 7, 0, 0, 0, 0), (1, 10, 0, -2147483648, 2147483647, 0), (1, 13, 0, 0, 7, 0), (1, 0, 0, -2147483648, 2147483647, 0)], 0, 0), (1, [(20, 13, 8, 0)])),
  (32, ([(1, 6, 0), (1, 7, 0), (0, 0, 0), (0, 0, 0), (0, 0, 0)], [], [(1, 7, 0, 0, 0, 0), (1, 10, 0, -2147483648, 2147483647, 0), (1, 13, 0, 0, 7, 0)], 0, 0), (0, [(20, 13, 8, 0)])),
  (35, ([(1, 6, 0), (1, 7, 0), (0, 0, 0), (0, 0, 0), (0, 0, 0)], [], [(1, 7, 0, 0, 0, 0), (1, 10, 0, -2147483648, 2147483647, 0), (1, 13, 0, 1, 8, 0)], 0, 0), (17, [(20, 13, 8, 0)])),
  (38, ([(1, 6, 0), (1, 7, 0), (0, 0, 0), (0, 0, 0), (0, 0, 0)], [], [(1, 7, 0, 0, 0, 0), (1, 10, 0, -2147483648, 2147483647, 0), (1, 13, 0, 0, 8, 0)], 0, 0), (1, [])),
  (39, ([(1, 6, 0), (1, 7, 0), (0, 0, 0), (0, 0, 0), (0, 0, 0)], [(0, 0, 0)], [(1, 7, 0, 0, 0, 0), (1, 10, 0, -2147483648, 2147483647, 0), (1, 13, 0, 0, 8, 0), (1, 0, 0, -2147483648, 2147483647, 0), (2, 0, 10, 1, 0, 0)], 0, 0), (0, []))]
def kd_X6_menOn_ef252d : List (Nat × sf_D × sf_M) := kd_X6_menOn_ef252d_0 ++ (kd_X6_menOn_ef252d_1 ++ (kd_X6_menOn_ef252d_2 ++ (kd_X6_menOn_ef252d_3)))
set_option maxRecDepth 100000 in
theorem kt_X6_menOn_ef252d : sf_chk [] kq_X6_menOn_ef252d 5 kc_X6_menOn_ef252d kd_X6_menOn_ef252d = true := by decide +kernel
set_option maxRecDepth 100000 in
theorem kl_X6_menOn_ef252d : (kc_X6_menOn_ef252d).map (fun c => (c.1, sf_den ([] : List sf_X) c.2)) = L_X6_menOn := rfl
theorem ct_X6_menOn_ef252d : sf_ct kq_X6_menOn_ef252d Z_X6_menOn := by
  have h := sf_meth (K := []) (E := []) (k := kq_X6_menOn_ef252d) (nL := 5) (C := kc_X6_menOn_ef252d) (D := kd_X6_menOn_ef252d) (fun m k hk => match m, hk with
    | _ + 0, hk => (by cases hk)) kt_X6_menOn_ef252d
  rw [kl_X6_menOn_ef252d] at h
  exact h
def kq_X6_menOn_452504 : sf_Q := ([(1, 6, 0), (1, 7, 0), (0, 0, 0)], [(1, 6, 0, 1, 1, 0)], some (0, 0, 0), [], [])
def kc_X6_menOn_452504 : List (Nat × sf_I) := [(0, 0, [1, 0]),
  (1, 5, [2, 3]),
  (2, 0, [3, 0]),
  (3, 5, [5, 4]),
  (5, 2, [7, 4]),
  (7, 4, [8, 1]),
  (8, 23, [11, 7, 9]),
  (11, 21, [14, 38, 5]),
  (14, 4, [15, 0]),
  (15, 23, [18, 6, 4]),
  (18, 2, [20, 4]),
  (20, 25, [21, 1]),
  (21, 2, [22, 2]),
  (22, 21, [25, 32, 1]),
  (25, 2, [26, 3]),
  (26, 0, [27, 1]),
  (27, 2, [29, 4]),
  (29, 9, [30, 6]),
  (30, 9, [31, 4]),
  (31, 5, [32, 3]),
  (32, 8, [35, 4, 1]),
  (35, 22, [5]),
  (38, 2, [39, 3]),
  (39, 35, [0, 0])]
def kd_X6_menOn_452504_0 : List (Nat × sf_D × sf_M) := [(0, ([(1, 6, 0), (1, 7, 0), (0, 0, 0), (8, 0, 0), (8, 0, 0)], [], [(1, 7, 0, 1, 1, 0)], 0, 0), (180, [])),
  (1, ([(1, 6, 0), (1, 7, 0), (0, 0, 0), (8, 0, 0), (8, 0, 0)], [(0, 0, 0)], [(1, 7, 0, 1, 1, 0), (1, 0, 0, 0, 0, 0)], 0, 0), (179, [])),
  (2, ([(1, 6, 0), (1, 7, 0), (0, 0, 0), (0, 0, 0), (8, 0, 0)], [], [(1, 7, 0, 1, 1, 0), (1, 10, 0, 0, 0, 0)], 0, 0), (178, [])),
  (3, ([(1, 6, 0), (1, 7, 0), (0, 0, 0), (0, 0, 0), (8, 0, 0)], [(0, 0, 0)], [(1, 7, 0, 1, 1, 0), (1, 10, 0, 0, 0, 0), (1, 0, 0, 0, 0, 0)], 0, 0), (177, [])),
  (5, ([(1, 6, 0), (1, 7, 0), (0, 0, 0), (0, 0, 0), (0, 0, 0)], [], [(1, 7, 0, 1, 1, 0), (1, 10, 0, -2147483648, 2147483647, 0), (1, 13, 0, 0, 8, 0)], 0, 0), (16, [(20, 13, 8, 0)])),
  (7, ([(1, 6, 0), (1, 7, 0), (0, 0, 0), (0, 0, 0), (0, 0, 0)], [(0, 0, 0)], [(1, 7, 0, 1, 1, 0), (1, 10, 0, -2147483648, 2147483647, 0), (1, 13, 0, 0, 8, 0), (1, 0, 0, 0, 8, 0), (2, 0, 13, 1, 0, 0)], 0, 0), (15, [(20, 13, 8, 0)])),
  (8, ([(1, 6, 0), (1, 7, 0), (0, 0, 0), (0, 0, 0), (0, 0, 0)], [(1, 7, 0), (0, 0, 0)], [(1, 7, 0, 1, 1, 0), (1, 10, 0, -2147483648, 2147483647, 0), (1, 13, 0, 0, 8, 0), (1, 0, 0, 0, 8, 0), (2, 0, 13, 1, 0, 0)], 0, 0), (14, [(20, 13, 8, 0)]))]
def kd_X6_menOn_452504_1 : List (Nat × sf_D × sf_M) := [(11, ([(1, 6, 0), (1, 7, 0), (0, 0, 0), (0, 0, 0), (0, 0, 0)], [(0, 0, 8), (0, 0, 0)], [(1, 7, 0, 1, 1, 0), (1, 10, 0, -2147483648, 2147483647, 0), (1, 13, 0, 0, 8, 0), (1, 0, 0, 0, 8, 0), (1, 3, 0, 0, 8, 0), (2, 0, 13, 1, 0, 0)], 0, 0), (13, [(20, 13, 8, 0)])),
  (14, ([(1, 6, 0), (1, 7, 0), (0, 0, 0), (0, 0, 0), (0, 0, 0)], [], [(1, 7, 0, 1, 1, 0), (1, 10, 0, -2147483648, 2147483647, 0), (1, 13, 0, 0, 7, 0)], 0, 0), (12, [(20, 13, 8, 0)])),
  (15, ([(1, 6, 0), (1, 7, 0), (0, 0, 0), (0, 0, 0), (0, 0, 0)], [(1, 6, 0)], [(1, 7, 0, 1, 1, 0), (1, 10, 0, -2147483648, 2147483647, 0), (1, 13, 0, 0, 7, 0)], 0, 0), (11, [(20, 13, 8, 0)])),
  (18, ([(1, 6, 0), (1, 7, 0), (0, 0, 0), (0, 0, 0), (0, 0, 0)], [(1, 153, 0)], [(1, 7, 0, 1, 1, 0), (1, 10, 0, -2147483648, 2147483647, 0), (1, 13, 0, 0, 7, 0)], 0, 0), (10, [(20, 13, 8, 0)])),
  (20, ([(1, 6, 0), (1, 7, 0), (0, 0, 0), (0, 0, 0), (0, 0, 0)], [(0, 0, 0), (1, 153, 0)], [(1, 7, 0, 1, 1, 0), (1, 10, 0, -2147483648, 2147483647, 0), (1, 13, 0, 0, 7, 0), (1, 3, 0, 0, 7, 0), (2, 3, 13, 1, 0, 0)], 0, 0), (9, [(20, 13, 8, 0)])),
  (21, ([(1, 6, 0), (1, 7, 0), (0, 0, 0), (0, 0, 0), (0, 0, 0)], [(0, 0, 0)], [(1, 7, 0, 1, 1, 0), (1, 10, 0, -2147483648, 2147483647, 0), (1, 13, 0, 0, 7, 0), (1, 0, 0, -2147483648, 2147483647, 0)], 0, 0), (8, [(20, 13, 8, 0)]))]
def kd_X6_menOn_452504_2 : List (Nat × sf_D × sf_M) := [(22, ([(1, 6, 0), (1, 7, 0), (0, 0, 0), (0, 0, 0), (0, 0, 0)], [(0, 0, 0), (0, 0, 0)], [(1, 7, 0, 1, 1, 0), (1, 10, 0, -2147483648, 2147483647, 0), (1, 13, 0, 0, 7, 0), (1, 0, 0, -2147483648, 2147483647, 0), (1, 3, 0, 1, 1, 0), (2, 3, 7, 1, 0, 0)], 0, 0), (7, [(20, 13, 8, 0)])),
  (25, ([(1, 6, 0), (1, 7, 0), (0, 0, 0), (0, 0, 0), (0, 0, 0)], [], [(1, 7, 0, 1, 1, 0), (1, 10, 0, -2147483648, 2147483647, 0), (1, 13, 0, 0, 7, 0)], 0, 0), (6, [(20, 13, 8, 0)])),
  (26, ([(1, 6, 0), (1, 7, 0), (0, 0, 0), (0, 0, 0), (0, 0, 0)], [(0, 0, 0)], [(1, 7, 0, 1, 1, 0), (1, 10, 0, -2147483648, 2147483647, 0), (1, 13, 0, 0, 7, 0), (1, 0, 0, -2147483648, 2147483647, 0), (2, 0, 10, 1, 0, 0)], 0, 0), (5, [(20, 13, 8, 0)])),
  (27, ([(1, 6, 0), (1, 7, 0), (0, 0, 0), (0, 0, 0), (0, 0, 0)], [(0, 0, 0), (0, 0, 0)], [(1, 7, 0, 1, 1, 0), (1, 10, 0, -2147483648, 2147483647, 0), (1, 13, 0, 0, 7, 0), (1, 0, 0, -2147483648, 2147483647, 0), (1, 3, 0, 1, 1, 0), (2, 0, 10, 1, 0, 0)], 0, 0), (4, [(20, 13, 8, 0)])),
  (29, ([(1, 6, 0), (1, 7, 0), (0, 0, 0), (0, 0, 0), (0, 0, 0)], [(0, 0, 0), (0, 0, 0), (0, 0, 0)], [(1, 7, 0, 1, 1, 0), (1, 10, 0, -2147483648, 2147483647, 0), (1, 13, 0, 0, 7, 0), (1, 0, 0, -2147483648, 2147483647, 0), (1, 3, 0, 1, 1, 0), (1, 6, 0, 0, 7, 0), (2, 0, 10, 1, 0, 0), (2, 6, 13, 1, 0, 0)], 0, 0), (3, [(20, 13, 8, 0)]))]
def kd_X6_menOn_452504_3 : List (Nat × sf_D × sf_M) := [(30, ([(1, 6, 0), (1, 7, 0), (0, 0, 0), (0, 0, 0), (0, 0, 0)], [(0, 0, 0), (0, 0, 0)], [(1, 7, 0, 1, 1, 0), (1, 10, 0, -2147483648, 2147483647, 0), (1, 13, 0, 0, 7, 0), (1, 0, 0, -2147483648, 2147483647, 0), (1, 3, 0, -2147483648, 2147483647, 0), (2, 0, 10, 1, 0, 0)], 0, 0), (2, [(20, 13, 8, 0)])),
  (31, ([(1, 6, 0), (1, 7, 0), (0, 0, 0), (0, 0, 0), (0, 0, 0)], [(0, 0, 0)], [(1, 7, 0, 1, 1, 0), (1, 10, 0, -2147483648, 2147483647, 0), (1, 13, 0, 0, 7, 0), (1, 0, 0, -2147483648, 2147483647, 0)], 0, 0), (1, [(20, 13, 8, 0)])),
  (32, ([(1, 6, 0), (1, 7, 0), (0, 0, 0), (0, 0, 0), (0, 0, 0)], [], [(1, 7, 0, 1, 1, 0), (1, 10, 0, -2147483648, 2147483647, 0), (1, 13, 0, 0, 7, 0)], 0, 0), (0, [(20, 13, 8, 0)])),
  (35, ([(1, 6, 0), (1, 7, 0), (0, 0, 0), (0, 0, 0), (0, 0, 0)], [], [(1, 7, 0, 1, 1, 0), (1, 10, 0, -2147483648, 2147483647, 0), (1, 13, 0, 1, 8, 0)], 0, 0), (17, [(20, 13, 8, 0)])),
  (38, ([(1, 6, 0), (1, 7, 0), (0, 0, 0), (0, 0, 0), (0, 0, 0)], [], [(1, 7, 0, 1, 1, 0), (1, 10, 0, -2147483648, 2147483647, 0), (1, 13, 0, 0, 8, 0)], 0, 0), (1, [])),
  (39, ([(1, 6, 0), (1, 7, 0), (0, 0, 0), (0, 0, 0), (0, 0, 0)], [(0, 0, 0)], [(1, 7, 0, 1, 1, 0), (1, 10, 0, -2147483648, 2147483647, 0), (1, 13, 0, 0, 8, 0), (1, 0, 0, -2147483648, 2147483647, 0), (2, 0, 10, 1, 0, 0)], 0, 0), (0, []))]
def kd_X6_menOn_452504 : List (Nat × sf_D × sf_M) := kd_X6_menOn_452504_0 ++ (kd_X6_menOn_452504_1 ++ (kd_X6_menOn_452504_2 ++ (kd_X6_menOn_452504_3)))
set_option maxRecDepth 100000 in
theorem kt_X6_menOn_452504 : sf_chk [] kq_X6_menOn_452504 5 kc_X6_menOn_452504 kd_X6_menOn_452504 = true := by decide +kernel
set_option maxRecDepth 100000 in
theorem kl_X6_menOn_452504 : (kc_X6_menOn_452504).map (fun c => (c.1, sf_den ([] : List sf_X) c.2)) = L_X6_menOn := rfl
theorem ct_X6_menOn_452504 : sf_ct kq_X6_menOn_452504 Z_X6_menOn := by
  have h := sf_meth (K := []) (E := []) (k := kq_X6_menOn_452504) (nL := 5) (C := kc_X6_menOn_452504) (D := kd_X6_menOn_452504) (fun m k hk => match m, hk with
    | _ + 0, hk => (by cases hk)) kt_X6_menOn_452504
  rw [kl_X6_menOn_452504] at h
  exact h
def kq_X6_hungerInAll_7c23bc : sf_Q := ([(1, 6, 0)], [], some (0, 0, 0), [], [])
def kc_X6_hungerInAll_7c23bc : List (Nat × sf_I) := [(0, 0, [1, 0]),
  (1, 5, [2, 1]),
  (2, 0, [3, 0]),
  (3, 5, [4, 2]),
  (4, 2, [5, 2]),
  (5, 0, [7, 12]),
  (7, 21, [10, 25, 5]),
  (10, 2, [11, 1]),
  (11, 4, [12, 0]),
  (12, 23, [15, 6, 2]),
  (15, 2, [16, 2]),
  (16, 25, [17, 1]),
  (17, 9, [18, 0]),
  (18, 5, [19, 1]),
  (19, 8, [22, 2, 1]),
  (22, 22, [4]),
  (25, 2, [26, 1]),
  (26, 35, [0, 0])]
def kd_X6_hungerInAll_7c23bc_0 : List (Nat × sf_D × sf_M) := [(0, ([(1, 6, 0), (8, 0, 0), (8, 0, 0)], [], [], 0, 0), (182, [])),
  (1, ([(1, 6, 0), (8, 0, 0), (8, 0, 0)], [(0, 0, 0)], [(1, 0, 0, 0, 0, 0)], 0, 0), (181, [])),
  (2, ([(1, 6, 0), (0, 0, 0), (8, 0, 0)], [], [(1, 4, 0, 0, 0, 0)], 0, 0), (180, [])),
  (3, ([(1, 6, 0), (0, 0, 0), (8, 0, 0)], [(0, 0, 0)], [(1, 4, 0, 0, 0, 0), (1, 0, 0, 0, 0, 0)], 0, 0), (179, [])),
  (4, ([(1, 6, 0), (0, 0, 0), (0, 0, 0)], [], [(1, 4, 0, -2147483648, 2147483647, 0), (1, 7, 0, 0, 12, 0)], 0, 0), (10, [(14, 7, 12, 0)])),
  (5, ([(1, 6, 0), (0, 0, 0), (0, 0, 0)], [(0, 0, 0)], [(1, 4, 0, -2147483648, 2147483647, 0), (1, 7, 0, 0, 12, 0), (1, 0, 0, 0, 12, 0), (2, 0, 7, 1, 0, 0)], 0, 0), (9, [(14, 7, 12, 0)])),
  (7, ([(1, 6, 0), (0, 0, 0), (0, 0, 0)], [(0, 0, 0), (0, 0, 0)], [(1, 4, 0, -2147483648, 2147483647, 0), (1, 7, 0, 0, 12, 0), (1, 0, 0, 0, 12, 0), (1, 3, 0, 12, 12, 0), (2, 0, 7, 1, 0, 0)], 0, 0), (8, [(14, 7, 12, 0)])),
  (10, ([(1, 6, 0), (0, 0, 0), (0, 0, 0)], [], [(1, 4, 0, -2147483648, 2147483647, 0), (1, 7, 0, 0, 11, 0)], 0, 0), (7, [(14, 7, 12, 0)])),
  (11, ([(1, 6, 0), (0, 0, 0), (0, 0, 0)], [(0, 0, 0)], [(1, 4, 0, -2147483648, 2147483647, 0), (1, 7, 0, 0, 11, 0), (1, 0, 0, -2147483648, 2147483647, 0), (2, 0, 4, 1, 0, 0)], 0, 0), (6, [(14, 7, 12, 0)])),
  (12, ([(1, 6, 0), (0, 0, 0), (0, 0, 0)], [(1, 6, 0), (0, 0, 0)], [(1, 4, 0, -2147483648, 2147483647, 0), (1, 7, 0, 0, 11, 0), (1, 0, 0, -2147483648, 2147483647, 0), (2, 0, 4, 1, 0, 0)], 0, 0), (5, [(14, 7, 12, 0)])),
  (15, ([(1, 6, 0), (0, 0, 0), (0, 0, 0)], [(1, 151, 0), (0, 0, 0)], [(1, 4, 0, -2147483648, 2147483647, 0), (1, 7, 0, 0, 11, 0), (1, 0, 0, -2147483648, 2147483647, 0), (2, 0, 4, 1, 0, 0)], 0, 0), (4, [(14, 7, 12, 0)]))]
def kd_X6_hungerInAll_7c23bc_1 : List (Nat × sf_D × sf_M) := [(16, ([(1, 6, 0), (0, 0, 0), (0, 0, 0)], [(0, 0, 0), (1, 151, 0), (0, 0, 0)], [(1, 4, 0, -2147483648, 2147483647, 0), (1, 7, 0, 0, 11, 0), (1, 0, 0, -2147483648, 2147483647, 0), (1, 6, 0, 0, 11, 0), (2, 0, 4, 1, 0, 0), (2, 6, 7, 1, 0, 0)], 0, 0), (3, [(14, 7, 12, 0)])),
  (17, ([(1, 6, 0), (0, 0, 0), (0, 0, 0)], [(0, 0, 0), (0, 0, 0)], [(1, 4, 0, -2147483648, 2147483647, 0), (1, 7, 0, 0, 11, 0), (1, 0, 0, -2147483648, 2147483647, 0), (1, 3, 0, -2147483648, 2147483647, 0), (2, 0, 4, 1, 0, 0)], 0, 0), (2, [(14, 7, 12, 0)])),
  (18, ([(1, 6, 0), (0, 0, 0), (0, 0, 0)], [(0, 0, 0)], [(1, 4, 0, -2147483648, 2147483647, 0), (1, 7, 0, 0, 11, 0), (1, 0, 0, -2147483648, 2147483647, 0)], 0, 0), (1, [(14, 7, 12, 0)])),
  (19, ([(1, 6, 0), (0, 0, 0), (0, 0, 0)], [], [(1, 7, 0, 0, 11, 0), (1, 4, 0, -2147483648, 2147483647, 0)], 0, 0), (0, [(14, 7, 12, 0)])),
  (22, ([(1, 6, 0), (0, 0, 0), (0, 0, 0)], [], [(1, 4, 0, -2147483648, 2147483647, 0), (1, 7, 0, 1, 12, 0)], 0, 0), (11, [(14, 7, 12, 0)])),
  (25, ([(1, 6, 0), (0, 0, 0), (0, 0, 0)], [], [(1, 4, 0, -2147483648, 2147483647, 0), (1, 7, 0, 12, 12, 0)], 0, 0), (1, [])),
  (26, ([(1, 6, 0), (0, 0, 0), (0, 0, 0)], [(0, 0, 0)], [(1, 4, 0, -2147483648, 2147483647, 0), (1, 7, 0, 12, 12, 0), (1, 0, 0, -2147483648, 2147483647, 0), (2, 0, 4, 1, 0, 0)], 0, 0), (0, []))]
def kd_X6_hungerInAll_7c23bc : List (Nat × sf_D × sf_M) := kd_X6_hungerInAll_7c23bc_0 ++ (kd_X6_hungerInAll_7c23bc_1)
set_option maxRecDepth 100000 in
theorem kt_X6_hungerInAll_7c23bc : sf_chk [] kq_X6_hungerInAll_7c23bc 3 kc_X6_hungerInAll_7c23bc kd_X6_hungerInAll_7c23bc = true := by decide +kernel
set_option maxRecDepth 100000 in
theorem kl_X6_hungerInAll_7c23bc : (kc_X6_hungerInAll_7c23bc).map (fun c => (c.1, sf_den ([] : List sf_X) c.2)) = L_X6_hungerInAll := rfl
theorem ct_X6_hungerInAll_7c23bc : sf_ct kq_X6_hungerInAll_7c23bc Z_X6_hungerInAll := by
  have h := sf_meth (K := []) (E := []) (k := kq_X6_hungerInAll_7c23bc) (nL := 3) (C := kc_X6_hungerInAll_7c23bc) (D := kd_X6_hungerInAll_7c23bc) (fun m k hk => match m, hk with
    | _ + 0, hk => (by cases hk)) kt_X6_hungerInAll_7c23bc
  rw [kl_X6_hungerInAll_7c23bc] at h
  exact h
def kq_X10_now_0df2a5 : sf_Q := ([(1, 10, 0), (0, 0, 0)], [], some (0, 0, 0), [], [])
def kc_X10_now_0df2a5 : List (Nat × sf_I) := [(0, 2, [1, 1]),
  (1, 34, [0, 110, 44, 52, 60, 73, 86, 94, 102]),
  (44, 4, [45, 0]),
  (45, 23, [48, 10, 4]),
  (48, 23, [51, 6, 7]),
  (51, 35, [0, 0]),
  (52, 4, [53, 0]),
  (53, 23, [56, 10, 4]),
  (56, 32, [59, 0, 1, 6, 0, 0, 0, 0]),
  (59, 35, [0, 0]),
  (60, 4, [61, 0]),
  (61, 23, [64, 10, 4]),
  (64, 4, [65, 0]),
  (65, 23, [68, 10, 13]),
  (68, 0, [69, 0]),
  (69, 32, [72, 1, 3, 6, 0, 0, 0, 0]),
  (72, 35, [0, 0]),
  (73, 4, [74, 0]),
  (74, 23, [77, 10, 4]),
  (77, 4, [78, 0]),
  (78, 23, [81, 10, 13]),
  (81, 0, [82, 1]),
  (82, 32, [85, 2, 3, 6, 0, 0, 0, 0]),
  (85, 35, [0, 0]),
  (86, 4, [87, 0]),
  (87, 23, [90, 10, 4]),
  (90, 23, [93, 6, 8]),
  (93, 35, [0, 0]),
  (94, 4, [95, 0]),
  (95, 23, [98, 10, 4]),
  (98, 23, [101, 6, 9]),
  (101, 35, [0, 0]),
  (102, 4, [103, 0]),
  (103, 23, [106, 10, 4]),
  (106, 32, [109, 3, 1, 6, 0, 0, 0, 0]),
  (109, 35, [0, 0]),
  (110, 0, [111, -1]),
  (111, 35, [0, 0])]
def kd_X10_now_0df2a5_0 : List (Nat × sf_D × sf_M) := [(0, ([(1, 10, 0), (0, 0, 0)], [], [], 0, 0), (8, [])),
  (1, ([(1, 10, 0), (0, 0, 0)], [(0, 0, 0)], [(1, 0, 0, -2147483648, 2147483647, 0), (1, 4, 0, -2147483648, 2147483647, 0), (2, 0, 4, 1, 0, 0)], 0, 0), (7, [])),
  (44, ([(1, 10, 0), (0, 0, 0)], [], [(1, 4, 0, 0, 0, 0)], 0, 0), (3, [])),
  (45, ([(1, 10, 0), (0, 0, 0)], [(1, 10, 0)], [(1, 4, 0, 0, 0, 0)], 0, 0), (2, [])),
  (48, ([(1, 10, 0), (0, 0, 0)], [(1, 6, 0)], [(1, 4, 0, 0, 0, 0)], 0, 0), (1, [])),
  (51, ([(1, 10, 0), (0, 0, 0)], [(0, 0, 400)], [(1, 4, 0, 0, 0, 0), (1, 0, 0, 0, 400, 0), (1, 21023, 0, -2147483648, 2147483647, 0), (2, 0, 21023, 1, 0, 0)], 0, 0), (0, [])),
  (52, ([(1, 10, 0), (0, 0, 0)], [], [(1, 4, 0, 1, 1, 0)], 0, 0), (3, [])),
  (53, ([(1, 10, 0), (0, 0, 0)], [(1, 10, 0)], [(1, 4, 0, 1, 1, 0)], 0, 0), (2, [])),
  (56, ([(1, 10, 0), (0, 0, 0)], [(1, 6, 0)], [(1, 4, 0, 1, 1, 0)], 0, 0), (1, [])),
  (59, ([(1, 10, 0), (0, 0, 0)], [(0, 0, 0)], [(1, 4, 0, 1, 1, 0), (1, 0, 0, 0, 1, 0)], 0, 0), (0, [])),
  (60, ([(1, 10, 0), (0, 0, 0)], [], [(1, 4, 0, 2, 2, 0)], 0, 0), (6, [])),
  (61, ([(1, 10, 0), (0, 0, 0)], [(1, 10, 0)], [(1, 4, 0, 2, 2, 0)], 0, 0), (5, [])),
  (64, ([(1, 10, 0), (0, 0, 0)], [(1, 6, 0)], [(1, 4, 0, 2, 2, 0)], 0, 0), (4, [])),
  (65, ([(1, 10, 0), (0, 0, 0)], [(1, 10, 0), (1, 6, 0)], [(1, 4, 0, 2, 2, 0)], 0, 0), (3, [])),
  (68, ([(1, 10, 0), (0, 0, 0)], [(1, 7, 0), (1, 6, 0)], [(1, 4, 0, 2, 2, 0)], 0, 0), (2, [])),
  (69, ([(1, 10, 0), (0, 0, 0)], [(0, 0, 0), (1, 7, 0), (1, 6, 0)], [(1, 4, 0, 2, 2, 0), (1, 6, 0, 0, 0, 0)], 0, 0), (1, []))]
def kd_X10_now_0df2a5_1 : List (Nat × sf_D × sf_M) := [(72, ([(1, 10, 0), (0, 0, 0)], [(0, 0, 0)], [(1, 4, 0, 2, 2, 0), (1, 0, 0, -2147483648, 2147483647, 0)], 0, 0), (0, [])),
  (73, ([(1, 10, 0), (0, 0, 0)], [], [(1, 4, 0, 3, 3, 0)], 0, 0), (6, [])),
  (74, ([(1, 10, 0), (0, 0, 0)], [(1, 10, 0)], [(1, 4, 0, 3, 3, 0)], 0, 0), (5, [])),
  (77, ([(1, 10, 0), (0, 0, 0)], [(1, 6, 0)], [(1, 4, 0, 3, 3, 0)], 0, 0), (4, [])),
  (78, ([(1, 10, 0), (0, 0, 0)], [(1, 10, 0), (1, 6, 0)], [(1, 4, 0, 3, 3, 0)], 0, 0), (3, [])),
  (81, ([(1, 10, 0), (0, 0, 0)], [(1, 7, 0), (1, 6, 0)], [(1, 4, 0, 3, 3, 0)], 0, 0), (2, [])),
  (82, ([(1, 10, 0), (0, 0, 0)], [(0, 0, 0), (1, 7, 0), (1, 6, 0)], [(1, 4, 0, 3, 3, 0), (1, 6, 0, 1, 1, 0)], 0, 0), (1, [])),
  (85, ([(1, 10, 0), (0, 0, 0)], [(0, 0, 0)], [(1, 4, 0, 3, 3, 0), (1, 0, 0, -2147483648, 2147483647, 0)], 0, 0), (0, [])),
  (86, ([(1, 10, 0), (0, 0, 0)], [], [(1, 4, 0, 4, 4, 0)], 0, 0), (3, [])),
  (87, ([(1, 10, 0), (0, 0, 0)], [(1, 10, 0)], [(1, 4, 0, 4, 4, 0)], 0, 0), (2, [])),
  (90, ([(1, 10, 0), (0, 0, 0)], [(1, 6, 0)], [(1, 4, 0, 4, 4, 0)], 0, 0), (1, [])),
  (93, ([(1, 10, 0), (0, 0, 0)], [(0, 0, 2147483647)], [(1, 4, 0, 4, 4, 0), (1, 0, 0, -2147483648, 2147483647, 0), (1, 21026, 0, -2147483648, 2147483647, 0), (2, 0, 21026, 1, 0, 0)], 0, 0), (0, [])),
  (94, ([(1, 10, 0), (0, 0, 0)], [], [(1, 4, 0, 5, 5, 0)], 0, 0), (3, [])),
  (95, ([(1, 10, 0), (0, 0, 0)], [(1, 10, 0)], [(1, 4, 0, 5, 5, 0)], 0, 0), (2, [])),
  (98, ([(1, 10, 0), (0, 0, 0)], [(1, 6, 0)], [(1, 4, 0, 5, 5, 0)], 0, 0), (1, []))]
def kd_X10_now_0df2a5_2 : List (Nat × sf_D × sf_M) := [(101, ([(1, 10, 0), (0, 0, 0)], [(0, 0, 2147483647)], [(1, 4, 0, 5, 5, 0), (1, 0, 0, -2147483648, 2147483647, 0), (1, 21029, 0, -2147483648, 2147483647, 0), (2, 0, 21029, 1, 0, 0)], 0, 0), (0, [])),
  (102, ([(1, 10, 0), (0, 0, 0)], [], [(1, 4, 0, 6, 6, 0)], 0, 0), (3, [])),
  (103, ([(1, 10, 0), (0, 0, 0)], [(1, 10, 0)], [(1, 4, 0, 6, 6, 0)], 0, 0), (2, [])),
  (106, ([(1, 10, 0), (0, 0, 0)], [(1, 6, 0)], [(1, 4, 0, 6, 6, 0)], 0, 0), (1, [])),
  (109, ([(1, 10, 0), (0, 0, 0)], [(0, 0, 0)], [(1, 4, 0, 6, 6, 0), (1, 0, 0, -2147483648, 2147483647, 0)], 0, 0), (0, [])),
  (110, ([(1, 10, 0), (0, 0, 0)], [], [(1, 4, 0, -2147483648, 2147483647, 0)], 0, 0), (1, [])),
  (111, ([(1, 10, 0), (0, 0, 0)], [(0, 0, 0)], [(1, 4, 0, -2147483648, 2147483647, 0), (1, 0, 0, -1, -1, 0)], 0, 0), (0, []))]
def kd_X10_now_0df2a5 : List (Nat × sf_D × sf_M) := kd_X10_now_0df2a5_0 ++ (kd_X10_now_0df2a5_1 ++ (kd_X10_now_0df2a5_2))
set_option maxRecDepth 100000 in
theorem kt_X10_now_0df2a5 : sf_chk [kq_X6_ferryShore_7c23bc, kq_X6_menOn_ef252d, kq_X6_menOn_452504, kq_X6_hungerInAll_7c23bc] kq_X10_now_0df2a5 2 kc_X10_now_0df2a5 kd_X10_now_0df2a5 = true := by decide +kernel
set_option maxRecDepth 100000 in
theorem kl_X10_now_0df2a5 : (kc_X10_now_0df2a5).map (fun c => (c.1, sf_den ([Z_X6_ferryShore, Z_X6_menOn, Z_X6_menOn, Z_X6_hungerInAll] : List sf_X) c.2)) = L_X10_now Z_X6_ferryShore Z_X6_menOn Z_X6_hungerInAll := rfl
theorem ct_X10_now_0df2a5 : sf_ct kq_X10_now_0df2a5 Z_X10_now := by
  have h := sf_meth (K := [kq_X6_ferryShore_7c23bc, kq_X6_menOn_ef252d, kq_X6_menOn_452504, kq_X6_hungerInAll_7c23bc]) (E := [Z_X6_ferryShore, Z_X6_menOn, Z_X6_menOn, Z_X6_hungerInAll]) (k := kq_X10_now_0df2a5) (nL := 2) (C := kc_X10_now_0df2a5) (D := kd_X10_now_0df2a5) (fun m k hk => match m, hk with
    | 0, hk => (Option.some.inj hk) ▸ ct_X6_ferryShore_7c23bc
    | 1, hk => (Option.some.inj hk) ▸ ct_X6_menOn_ef252d
    | 2, hk => (Option.some.inj hk) ▸ ct_X6_menOn_452504
    | 3, hk => (Option.some.inj hk) ▸ ct_X6_hungerInAll_7c23bc
    | _ + 4, hk => (by cases hk)) kt_X10_now_0df2a5
  rw [kl_X10_now_0df2a5] at h
  exact h
def kq_X10_hoard_7e6f69 : sf_Q := ([(1, 10, 0), (0, 0, 0), (0, 0, 0), (0, 0, 0)], [], some (0, 0, 0), [(1, 0, 0, -1, 2, 0)], [(2, 1, 1), (15, 7, 9), (102, 0, 0), (109, 0, 11), (110, 0, 11), (111, 0, 11), (112, 0, 11), (113, 0, 7), (114, 0, 7), (115, 0, 63), (149, 0, 11), (150, 0, 11), (153, 0, 7)])
def kc_X10_hoard_7e6f69 : List (Nat × sf_I) := [(0, 4, [1, 0]),
  (1, 0, [2, 0]),
  (2, 2, [3, 1]),
  (3, 2, [4, 2]),
  (4, 2, [5, 3]),
  (5, 32, [8, 0, 5, 10, 8, 138, 8, 138]),
  (8, 35, [8, 138])]
def kd_X10_hoard_7e6f69 : List (Nat × sf_D × sf_M) := [(0, ([(1, 10, 0), (0, 0, 0), (0, 0, 0), (0, 0, 0)], [], [], 0, 0), (6, [])),
  (1, ([(1, 10, 0), (0, 0, 0), (0, 0, 0), (0, 0, 0)], [(1, 10, 0)], [], 0, 0), (5, [])),
  (2, ([(1, 10, 0), (0, 0, 0), (0, 0, 0), (0, 0, 0)], [(0, 0, 0), (1, 10, 0)], [(1, 3, 0, 0, 0, 0)], 0, 0), (4, [])),
  (3, ([(1, 10, 0), (0, 0, 0), (0, 0, 0), (0, 0, 0)], [(0, 0, 0), (0, 0, 0), (1, 10, 0)], [(1, 3, 0, 0, 0, 0), (1, 6, 0, -2147483648, 2147483647, 0), (1, 4, 0, -2147483648, 2147483647, 0), (2, 6, 4, 1, 0, 0)], 0, 0), (3, [])),
  (4, ([(1, 10, 0), (0, 0, 0), (0, 0, 0), (0, 0, 0)], [(0, 0, 0), (0, 0, 0), (0, 0, 0), (1, 10, 0)], [(1, 3, 0, 0, 0, 0), (1, 6, 0, -2147483648, 2147483647, 0), (1, 4, 0, -2147483648, 2147483647, 0), (1, 9, 0, -2147483648, 2147483647, 0), (1, 7, 0, -2147483648, 2147483647, 0), (2, 6, 4, 1, 0, 0), (2, 9, 7, 1, 0, 0)], 0, 0), (2, [])),
  (5, ([(1, 10, 0), (0, 0, 0), (0, 0, 0), (0, 0, 0)], [(0, 0, 0), (0, 0, 0), (0, 0, 0), (0, 0, 0), (1, 10, 0)], [(1, 3, 0, 0, 0, 0), (1, 6, 0, -2147483648, 2147483647, 0), (1, 4, 0, -2147483648, 2147483647, 0), (1, 9, 0, -2147483648, 2147483647, 0), (1, 7, 0, -2147483648, 2147483647, 0), (1, 12, 0, -2147483648, 2147483647, 0), (1, 10, 0, -2147483648, 2147483647, 0), (2, 6, 4, 1, 0, 0), (2, 9, 7, 1, 0, 0), (2, 12, 10, 1, 0, 0)], 0, 0), (1, [])),
  (8, ([(1, 10, 0), (0, 0, 0), (0, 0, 0), (0, 0, 0)], [(0, 0, 0)], [(1, 4, 0, -2147483648, 2147483647, 0), (1, 7, 0, -2147483648, 2147483647, 0), (1, 10, 0, -2147483648, 2147483647, 0), (1, 0, 0, -1, 2, 0)], 8, 138), (0, []))]
set_option maxRecDepth 100000 in
theorem kt_X10_hoard_7e6f69 : sf_chk [kq_X10_act_0] kq_X10_hoard_7e6f69 4 kc_X10_hoard_7e6f69 kd_X10_hoard_7e6f69 = true := by decide +kernel
set_option maxRecDepth 100000 in
theorem kl_X10_hoard_7e6f69 : (kc_X10_hoard_7e6f69).map (fun c => (c.1, sf_den ([Z_X10_act] : List sf_X) c.2)) = L_X10_hoard Z_X10_act := rfl
theorem ct_X10_hoard_7e6f69 : sf_ct kq_X10_hoard_7e6f69 Z_X10_hoard := by
  have h := sf_meth (K := [kq_X10_act_0]) (E := [Z_X10_act]) (k := kq_X10_hoard_7e6f69) (nL := 4) (C := kc_X10_hoard_7e6f69) (D := kd_X10_hoard_7e6f69) (fun m k hk => match m, hk with
    | 0, hk => (Option.some.inj hk) ▸ ct_X10_act_0
    | _ + 1, hk => (by cases hk)) kt_X10_hoard_7e6f69
  rw [kl_X10_hoard_7e6f69] at h
  exact h
def kq_X10_bare_7e6f69 : sf_Q := ([(1, 10, 0), (0, 0, 0), (0, 0, 0), (0, 0, 0)], [], some (0, 0, 0), [(1, 0, 0, -1, 2, 0)], [(2, 1, 1), (15, 7, 9), (102, 0, 0), (109, 0, 11), (110, 0, 11), (111, 0, 11), (112, 0, 11), (113, 0, 7), (114, 0, 7), (115, 0, 63), (149, 0, 11), (150, 0, 11), (153, 0, 7)])
def kc_X10_bare_7e6f69 : List (Nat × sf_I) := [(0, 4, [1, 0]),
  (1, 0, [2, 1]),
  (2, 2, [3, 1]),
  (3, 2, [4, 2]),
  (4, 2, [5, 3]),
  (5, 32, [8, 0, 5, 10, 8, 138, 8, 138]),
  (8, 35, [8, 138])]
def kd_X10_bare_7e6f69 : List (Nat × sf_D × sf_M) := [(0, ([(1, 10, 0), (0, 0, 0), (0, 0, 0), (0, 0, 0)], [], [], 0, 0), (6, [])),
  (1, ([(1, 10, 0), (0, 0, 0), (0, 0, 0), (0, 0, 0)], [(1, 10, 0)], [], 0, 0), (5, [])),
  (2, ([(1, 10, 0), (0, 0, 0), (0, 0, 0), (0, 0, 0)], [(0, 0, 0), (1, 10, 0)], [(1, 3, 0, 1, 1, 0)], 0, 0), (4, [])),
  (3, ([(1, 10, 0), (0, 0, 0), (0, 0, 0), (0, 0, 0)], [(0, 0, 0), (0, 0, 0), (1, 10, 0)], [(1, 3, 0, 1, 1, 0), (1, 6, 0, -2147483648, 2147483647, 0), (1, 4, 0, -2147483648, 2147483647, 0), (2, 6, 4, 1, 0, 0)], 0, 0), (3, [])),
  (4, ([(1, 10, 0), (0, 0, 0), (0, 0, 0), (0, 0, 0)], [(0, 0, 0), (0, 0, 0), (0, 0, 0), (1, 10, 0)], [(1, 3, 0, 1, 1, 0), (1, 6, 0, -2147483648, 2147483647, 0), (1, 4, 0, -2147483648, 2147483647, 0), (1, 9, 0, -2147483648, 2147483647, 0), (1, 7, 0, -2147483648, 2147483647, 0), (2, 6, 4, 1, 0, 0), (2, 9, 7, 1, 0, 0)], 0, 0), (2, [])),
  (5, ([(1, 10, 0), (0, 0, 0), (0, 0, 0), (0, 0, 0)], [(0, 0, 0), (0, 0, 0), (0, 0, 0), (0, 0, 0), (1, 10, 0)], [(1, 3, 0, 1, 1, 0), (1, 6, 0, -2147483648, 2147483647, 0), (1, 4, 0, -2147483648, 2147483647, 0), (1, 9, 0, -2147483648, 2147483647, 0), (1, 7, 0, -2147483648, 2147483647, 0), (1, 12, 0, -2147483648, 2147483647, 0), (1, 10, 0, -2147483648, 2147483647, 0), (2, 6, 4, 1, 0, 0), (2, 9, 7, 1, 0, 0), (2, 12, 10, 1, 0, 0)], 0, 0), (1, [])),
  (8, ([(1, 10, 0), (0, 0, 0), (0, 0, 0), (0, 0, 0)], [(0, 0, 0)], [(1, 4, 0, -2147483648, 2147483647, 0), (1, 7, 0, -2147483648, 2147483647, 0), (1, 10, 0, -2147483648, 2147483647, 0), (1, 0, 0, -1, 2, 0)], 8, 138), (0, []))]
set_option maxRecDepth 100000 in
theorem kt_X10_bare_7e6f69 : sf_chk [kq_X10_act_1] kq_X10_bare_7e6f69 4 kc_X10_bare_7e6f69 kd_X10_bare_7e6f69 = true := by decide +kernel
set_option maxRecDepth 100000 in
theorem kl_X10_bare_7e6f69 : (kc_X10_bare_7e6f69).map (fun c => (c.1, sf_den ([Z_X10_act] : List sf_X) c.2)) = L_X10_bare Z_X10_act := rfl
theorem ct_X10_bare_7e6f69 : sf_ct kq_X10_bare_7e6f69 Z_X10_bare := by
  have h := sf_meth (K := [kq_X10_act_1]) (E := [Z_X10_act]) (k := kq_X10_bare_7e6f69) (nL := 4) (C := kc_X10_bare_7e6f69) (D := kd_X10_bare_7e6f69) (fun m k hk => match m, hk with
    | 0, hk => (Option.some.inj hk) ▸ ct_X10_act_1
    | _ + 1, hk => (by cases hk)) kt_X10_bare_7e6f69
  rw [kl_X10_bare_7e6f69] at h
  exact h
def kq_X10_waste_7e6f69 : sf_Q := ([(1, 10, 0), (0, 0, 0), (0, 0, 0), (0, 0, 0)], [], some (0, 0, 0), [(1, 0, 0, -1, 2, 0)], [(2, 1, 1), (15, 7, 9), (102, 0, 0), (109, 0, 11), (110, 0, 11), (111, 0, 11), (112, 0, 11), (113, 0, 7), (114, 0, 7), (115, 0, 63), (149, 0, 11), (150, 0, 11), (153, 0, 7)])
def kc_X10_waste_7e6f69 : List (Nat × sf_I) := [(0, 4, [1, 0]),
  (1, 0, [2, 2]),
  (2, 2, [3, 1]),
  (3, 2, [4, 2]),
  (4, 2, [5, 3]),
  (5, 32, [8, 0, 5, 10, 8, 138, 8, 138]),
  (8, 35, [8, 138])]
def kd_X10_waste_7e6f69 : List (Nat × sf_D × sf_M) := [(0, ([(1, 10, 0), (0, 0, 0), (0, 0, 0), (0, 0, 0)], [], [], 0, 0), (6, [])),
  (1, ([(1, 10, 0), (0, 0, 0), (0, 0, 0), (0, 0, 0)], [(1, 10, 0)], [], 0, 0), (5, [])),
  (2, ([(1, 10, 0), (0, 0, 0), (0, 0, 0), (0, 0, 0)], [(0, 0, 0), (1, 10, 0)], [(1, 3, 0, 2, 2, 0)], 0, 0), (4, [])),
  (3, ([(1, 10, 0), (0, 0, 0), (0, 0, 0), (0, 0, 0)], [(0, 0, 0), (0, 0, 0), (1, 10, 0)], [(1, 3, 0, 2, 2, 0), (1, 6, 0, -2147483648, 2147483647, 0), (1, 4, 0, -2147483648, 2147483647, 0), (2, 6, 4, 1, 0, 0)], 0, 0), (3, [])),
  (4, ([(1, 10, 0), (0, 0, 0), (0, 0, 0), (0, 0, 0)], [(0, 0, 0), (0, 0, 0), (0, 0, 0), (1, 10, 0)], [(1, 3, 0, 2, 2, 0), (1, 6, 0, -2147483648, 2147483647, 0), (1, 4, 0, -2147483648, 2147483647, 0), (1, 9, 0, -2147483648, 2147483647, 0), (1, 7, 0, -2147483648, 2147483647, 0), (2, 6, 4, 1, 0, 0), (2, 9, 7, 1, 0, 0)], 0, 0), (2, [])),
  (5, ([(1, 10, 0), (0, 0, 0), (0, 0, 0), (0, 0, 0)], [(0, 0, 0), (0, 0, 0), (0, 0, 0), (0, 0, 0), (1, 10, 0)], [(1, 3, 0, 2, 2, 0), (1, 6, 0, -2147483648, 2147483647, 0), (1, 4, 0, -2147483648, 2147483647, 0), (1, 9, 0, -2147483648, 2147483647, 0), (1, 7, 0, -2147483648, 2147483647, 0), (1, 12, 0, -2147483648, 2147483647, 0), (1, 10, 0, -2147483648, 2147483647, 0), (2, 6, 4, 1, 0, 0), (2, 9, 7, 1, 0, 0), (2, 12, 10, 1, 0, 0)], 0, 0), (1, [])),
  (8, ([(1, 10, 0), (0, 0, 0), (0, 0, 0), (0, 0, 0)], [(0, 0, 0)], [(1, 4, 0, -2147483648, 2147483647, 0), (1, 7, 0, -2147483648, 2147483647, 0), (1, 10, 0, -2147483648, 2147483647, 0), (1, 0, 0, -1, 2, 0)], 8, 138), (0, []))]
set_option maxRecDepth 100000 in
theorem kt_X10_waste_7e6f69 : sf_chk [kq_X10_act_2] kq_X10_waste_7e6f69 4 kc_X10_waste_7e6f69 kd_X10_waste_7e6f69 = true := by decide +kernel
set_option maxRecDepth 100000 in
theorem kl_X10_waste_7e6f69 : (kc_X10_waste_7e6f69).map (fun c => (c.1, sf_den ([Z_X10_act] : List sf_X) c.2)) = L_X10_waste Z_X10_act := rfl
theorem ct_X10_waste_7e6f69 : sf_ct kq_X10_waste_7e6f69 Z_X10_waste := by
  have h := sf_meth (K := [kq_X10_act_2]) (E := [Z_X10_act]) (k := kq_X10_waste_7e6f69) (nL := 4) (C := kc_X10_waste_7e6f69) (D := kd_X10_waste_7e6f69) (fun m k hk => match m, hk with
    | 0, hk => (Option.some.inj hk) ▸ ct_X10_act_2
    | _ + 1, hk => (by cases hk)) kt_X10_waste_7e6f69
  rw [kl_X10_waste_7e6f69] at h
  exact h
def kq_X6_whyNot_16c192 : sf_Q := ([(1, 6, 0), (0, 0, 0), (0, 0, 0), (0, 0, 0)], [(1, 3, 0, 3, 3, 0), (1, 6, 0, 0, 7, 0), (1, 9, 0, 0, 0, 0)], some (0, 0, 0), [(1, 0, 0, 0, 1, 0)], [])
def kc_X6_whyNot_16c192 : List (Nat × sf_I) := [(0, 2, [1, 1]),
  (1, 34, [0, 94, 28, 44, 78]),
  (28, 4, [29, 0]),
  (29, 23, [32, 6, 0]),
  (32, 2, [33, 2]),
  (33, 25, [34, 1]),
  (34, 2, [35, 3]),
  (35, 21, [38, 42, 5]),
  (38, 0, [39, 1]),
  (39, 22, [43]),
  (42, 0, [43, 0]),
  (43, 35, [0, 0]),
  (44, 4, [45, 0]),
  (45, 23, [48, 6, 1]),
  (48, 2, [49, 2]),
  (49, 25, [50, 1]),
  (50, 2, [51, 3]),
  (51, 21, [54, 58, 5]),
  (54, 0, [55, 1]),
  (55, 22, [77]),
  (58, 4, [59, 0]),
  (59, 23, [62, 6, 0]),
  (62, 2, [63, 2]),
  (63, 25, [64, 1]),
  (64, 2, [65, 3]),
  (65, 9, [66, 0]),
  (66, 0, [69, 999]),
  (69, 21, [72, 76, 3]),
  (72, 0, [73, 2]),
  (73, 22, [77]),
  (76, 0, [77, 0]),
  (77, 35, [0, 0]),
  (78, 4, [79, 0]),
  (79, 23, [82, 6, 0]),
  (82, 2, [83, 2]),
  (83, 25, [84, 1]),
  (84, 2, [85, 3]),
  (85, 21, [88, 92, 5]),
  (88, 0, [89, 1]),
  (89, 22, [93]),
  (92, 0, [93, 0]),
  (93, 35, [0, 0]),
  (94, 4, [95, 0]),
  (95, 2, [96, 2]),
  (96, 32, [99, 0, 2, 6, 0, 0, 0, 0]),
  (99, 20, [102, 106, 0]),
  (102, 0, [103, 0]),
  (103, 22, [107]),
  (106, 0, [107, 1]),
  (107, 35, [0, 0])]
def kd_X6_whyNot_16c192_0 : List (Nat × sf_D × sf_M) := [(0, ([(1, 6, 0), (0, 0, 0), (0, 0, 0), (0, 0, 0)], [], [(1, 4, 0, 3, 3, 0), (1, 7, 0, 0, 7, 0), (1, 10, 0, 0, 0, 0)], 0, 0), (8, [])),
  (1, ([(1, 6, 0), (0, 0, 0), (0, 0, 0), (0, 0, 0)], [(0, 0, 0)], [(1, 4, 0, 3, 3, 0), (1, 7, 0, 0, 7, 0), (1, 10, 0, 0, 0, 0), (1, 0, 0, 3, 3, 0), (2, 0, 4, 1, 0, 0)], 0, 0), (7, [])),
  (94, ([(1, 6, 0), (0, 0, 0), (0, 0, 0), (0, 0, 0)], [], [(1, 4, 0, 3, 3, 0), (1, 7, 0, 0, 7, 0), (1, 10, 0, 0, 0, 0)], 0, 0), (6, [])),
  (95, ([(1, 6, 0), (0, 0, 0), (0, 0, 0), (0, 0, 0)], [(1, 6, 0)], [(1, 4, 0, 3, 3, 0), (1, 7, 0, 0, 7, 0), (1, 10, 0, 0, 0, 0)], 0, 0), (5, [])),
  (96, ([(1, 6, 0), (0, 0, 0), (0, 0, 0), (0, 0, 0)], [(0, 0, 0), (1, 6, 0)], [(1, 4, 0, 3, 3, 0), (1, 7, 0, 0, 7, 0), (1, 10, 0, 0, 0, 0), (1, 3, 0, 0, 7, 0), (2, 3, 7, 1, 0, 0)], 0, 0), (4, [])),
  (99, ([(1, 6, 0), (0, 0, 0), (0, 0, 0), (0, 0, 0)], [(0, 0, 0)], [(1, 4, 0, 3, 3, 0), (1, 7, 0, 0, 7, 0), (1, 10, 0, 0, 0, 0), (1, 0, 0, 0, 1, 0)], 0, 0), (3, [])),
  (102, ([(1, 6, 0), (0, 0, 0), (0, 0, 0), (0, 0, 0)], [], [(1, 4, 0, 3, 3, 0), (1, 7, 0, 0, 7, 0), (1, 10, 0, 0, 0, 0)], 0, 0), (2, []))]
def kd_X6_whyNot_16c192_1 : List (Nat × sf_D × sf_M) := [(103, ([(1, 6, 0), (0, 0, 0), (0, 0, 0), (0, 0, 0)], [(0, 0, 0)], [(1, 4, 0, 3, 3, 0), (1, 7, 0, 0, 7, 0), (1, 10, 0, 0, 0, 0), (1, 0, 0, 0, 0, 0)], 0, 0), (1, [])),
  (106, ([(1, 6, 0), (0, 0, 0), (0, 0, 0), (0, 0, 0)], [], [(1, 4, 0, 3, 3, 0), (1, 7, 0, 0, 7, 0), (1, 10, 0, 0, 0, 0)], 0, 0), (1, [])),
  (107, ([(1, 6, 0), (0, 0, 0), (0, 0, 0), (0, 0, 0)], [(0, 0, 0)], [(1, 4, 0, 3, 3, 0), (1, 7, 0, 0, 7, 0), (1, 10, 0, 0, 0, 0), (1, 0, 0, 0, 1, 0)], 0, 0), (0, []))]
def kd_X6_whyNot_16c192 : List (Nat × sf_D × sf_M) := kd_X6_whyNot_16c192_0 ++ (kd_X6_whyNot_16c192_1)
set_option maxRecDepth 100000 in
theorem kt_X6_whyNot_16c192 : sf_chk [kq_X6_isAlive_a7a9b3] kq_X6_whyNot_16c192 4 kc_X6_whyNot_16c192 kd_X6_whyNot_16c192 = true := by decide +kernel
set_option maxRecDepth 100000 in
theorem kl_X6_whyNot_16c192 : (kc_X6_whyNot_16c192).map (fun c => (c.1, sf_den ([Z_X6_isAlive] : List sf_X) c.2)) = L_X6_whyNot Z_X6_isAlive := rfl
theorem ct_X6_whyNot_16c192 : sf_ct kq_X6_whyNot_16c192 Z_X6_whyNot := by
  have h := sf_meth (K := [kq_X6_isAlive_a7a9b3]) (E := [Z_X6_isAlive]) (k := kq_X6_whyNot_16c192) (nL := 4) (C := kc_X6_whyNot_16c192) (D := kd_X6_whyNot_16c192) (fun m k hk => match m, hk with
    | 0, hk => (Option.some.inj hk) ▸ ct_X6_isAlive_a7a9b3
    | _ + 1, hk => (by cases hk)) kt_X6_whyNot_16c192
  rw [kl_X6_whyNot_16c192] at h
  exact h
def kq_X6_perform_16c192 : sf_Q := ([(1, 6, 0), (0, 0, 0), (0, 0, 0), (0, 0, 0)], [(1, 3, 0, 3, 3, 0), (1, 6, 0, 0, 7, 0), (1, 9, 0, 0, 0, 0)], none, [], [(153, 0, 7)])
def kc_X6_perform_16c192 : List (Nat × sf_I) := [(0, 2, [1, 1]),
  (1, 0, [2, 3]),
  (2, 21, [5, 13, 1]),
  (5, 4, [6, 0]),
  (6, 23, [9, 6, 4]),
  (9, 2, [10, 2]),
  (10, 0, [11, -1]),
  (11, 28, [12, 1]),
  (12, 37, [0, 0]),
  (13, 4, [14, 0]),
  (14, 23, [17, 6, 0]),
  (17, 2, [18, 2]),
  (18, 18, [19]),
  (19, 25, [20, 1]),
  (20, 2, [21, 1]),
  (21, 0, [22, 1]),
  (22, 21, [25, 29, 1]),
  (25, 2, [26, 3]),
  (26, 22, [31]),
  (29, 2, [30, 3]),
  (30, 11, [31, 0]),
  (31, 9, [32, 0]),
  (32, 28, [33, 1]),
  (33, 2, [34, 1]),
  (34, 20, [37, 50, 1]),
  (37, 4, [38, 0]),
  (38, 23, [41, 6, 1]),
  (41, 2, [42, 2]),
  (42, 18, [43]),
  (43, 25, [44, 1]),
  (44, 2, [45, 3]),
  (45, 9, [46, 0]),
  (46, 28, [47, 1]),
  (47, 22, [65]),
  (50, 2, [51, 1]),
  (51, 0, [52, 1]),
  (52, 21, [55, 65, 1]),
  (55, 4, [56, 0]),
  (56, 23, [59, 6, 1]),
  (59, 2, [60, 2]),
  (60, 18, [61]),
  (61, 25, [62, 1]),
  (62, 2, [63, 3]),
  (63, 9, [64, 1]),
  (64, 28, [65, 1]),
  (65, 37, [0, 0])]
def kd_X6_perform_16c192_0 : List (Nat × sf_D × sf_M) := [(0, ([(1, 6, 0), (0, 0, 0), (0, 0, 0), (0, 0, 0)], [], [(1, 4, 0, 3, 3, 0), (1, 7, 0, 0, 7, 0), (1, 10, 0, 0, 0, 0)], 0, 0), (8, [])),
  (1, ([(1, 6, 0), (0, 0, 0), (0, 0, 0), (0, 0, 0)], [(0, 0, 0)], [(1, 4, 0, 3, 3, 0), (1, 7, 0, 0, 7, 0), (1, 10, 0, 0, 0, 0), (1, 0, 0, 3, 3, 0), (2, 0, 4, 1, 0, 0)], 0, 0), (7, [])),
  (2, ([(1, 6, 0), (0, 0, 0), (0, 0, 0), (0, 0, 0)], [(0, 0, 0), (0, 0, 0)], [(1, 4, 0, 3, 3, 0), (1, 7, 0, 0, 7, 0), (1, 10, 0, 0, 0, 0), (1, 0, 0, 3, 3, 0), (1, 3, 0, 3, 3, 0), (2, 0, 4, 1, 0, 0)], 0, 0), (6, [])),
  (5, ([(1, 6, 0), (0, 0, 0), (0, 0, 0), (0, 0, 0)], [], [(1, 4, 0, 3, 3, 0), (1, 7, 0, 0, 7, 0), (1, 10, 0, 0, 0, 0)], 0, 0), (5, [])),
  (6, ([(1, 6, 0), (0, 0, 0), (0, 0, 0), (0, 0, 0)], [(1, 6, 0)], [(1, 4, 0, 3, 3, 0), (1, 7, 0, 0, 7, 0), (1, 10, 0, 0, 0, 0)], 0, 0), (4, [])),
  (9, ([(1, 6, 0), (0, 0, 0), (0, 0, 0), (0, 0, 0)], [(1, 153, 0)], [(1, 4, 0, 3, 3, 0), (1, 7, 0, 0, 7, 0), (1, 10, 0, 0, 0, 0)], 0, 0), (3, []))]
def kd_X6_perform_16c192_1 : List (Nat × sf_D × sf_M) := [(10, ([(1, 6, 0), (0, 0, 0), (0, 0, 0), (0, 0, 0)], [(0, 0, 0), (1, 153, 0)], [(1, 4, 0, 3, 3, 0), (1, 7, 0, 0, 7, 0), (1, 10, 0, 0, 0, 0), (1, 3, 0, 0, 7, 0), (2, 3, 7, 1, 0, 0)], 0, 0), (2, [])),
  (11, ([(1, 6, 0), (0, 0, 0), (0, 0, 0), (0, 0, 0)], [(0, 0, 0), (0, 0, 0), (1, 153, 0)], [(1, 4, 0, 3, 3, 0), (1, 7, 0, 0, 7, 0), (1, 10, 0, 0, 0, 0), (1, 3, 0, 0, 7, 0), (1, 6, 0, -1, -1, 0), (2, 3, 7, 1, 0, 0)], 0, 0), (1, [])),
  (12, ([(1, 6, 0), (0, 0, 0), (0, 0, 0), (0, 0, 0)], [], [(1, 4, 0, 3, 3, 0), (1, 7, 0, 0, 7, 0), (1, 10, 0, 0, 0, 0)], 0, 0), (0, []))]
def kd_X6_perform_16c192 : List (Nat × sf_D × sf_M) := kd_X6_perform_16c192_0 ++ (kd_X6_perform_16c192_1)
set_option maxRecDepth 100000 in
theorem kt_X6_perform_16c192 : sf_chk [] kq_X6_perform_16c192 4 kc_X6_perform_16c192 kd_X6_perform_16c192 = true := by decide +kernel
set_option maxRecDepth 100000 in
theorem kl_X6_perform_16c192 : (kc_X6_perform_16c192).map (fun c => (c.1, sf_den ([] : List sf_X) c.2)) = L_X6_perform := rfl
theorem ct_X6_perform_16c192 : sf_ct kq_X6_perform_16c192 Z_X6_perform := by
  have h := sf_meth (K := []) (E := []) (k := kq_X6_perform_16c192) (nL := 4) (C := kc_X6_perform_16c192) (D := kd_X6_perform_16c192) (fun m k hk => match m, hk with
    | _ + 0, hk => (by cases hk)) kt_X6_perform_16c192
  rw [kl_X6_perform_16c192] at h
  exact h
def kq_X10_die_0df2a5 : sf_Q := ([(1, 10, 0), (0, 0, 0)], [], some (0, 0, 0), [(1, 0, 0, -1, 1, 0)], [(2, 1, 1), (15, 7, 9), (102, 0, 0), (109, 0, 11), (110, 0, 11), (111, 0, 11), (112, 0, 11), (113, 0, 7), (114, 0, 7), (115, 0, 63), (153, 0, 7)])
def kc_X10_die_0df2a5 : List (Nat × sf_I) := [(0, 4, [1, 0]),
  (1, 2, [2, 1]),
  (2, 32, [5, 0, 2, 10, 0, 0, 8, 138]),
  (5, 20, [8, 10, 1]),
  (8, 0, [9, -1]),
  (9, 35, [8, 138]),
  (10, 4, [11, 0]),
  (11, 23, [14, 10, 4]),
  (14, 0, [15, 3]),
  (15, 2, [16, 1]),
  (16, 0, [17, 0]),
  (17, 32, [20, 1, 4, 6, 0, 0, 8, 138]),
  (20, 5, [21, 2]),
  (21, 2, [22, 2]),
  (22, 20, [25, 46, 1]),
  (25, 4, [26, 0]),
  (26, 23, [29, 10, 3]),
  (29, 4, [30, 0]),
  (30, 23, [33, 10, 4]),
  (33, 32, [36, 2, 2, 2, 8, 138, 8, 138]),
  (36, 4, [37, 0]),
  (37, 23, [40, 10, 4]),
  (40, 0, [41, 3]),
  (41, 2, [42, 1]),
  (42, 0, [43, 0]),
  (43, 32, [46, 3, 4, 6, 0, 0, 8, 138]),
  (46, 2, [47, 2]),
  (47, 35, [8, 138])]
def kd_X10_die_0df2a5_0 : List (Nat × sf_D × sf_M) := [(0, ([(1, 10, 0), (0, 0, 0), (8, 0, 0)], [], [], 0, 0), (25, [])),
  (1, ([(1, 10, 0), (0, 0, 0), (8, 0, 0)], [(1, 10, 0)], [], 0, 0), (24, [])),
  (2, ([(1, 10, 0), (0, 0, 0), (8, 0, 0)], [(0, 0, 0), (1, 10, 0)], [(1, 3, 0, -2147483648, 2147483647, 0), (1, 4, 0, -2147483648, 2147483647, 0), (2, 3, 4, 1, 0, 0)], 0, 0), (23, [])),
  (5, ([(1, 10, 0), (0, 0, 0), (8, 0, 0)], [(0, 0, 0)], [(1, 4, 0, -2147483648, 2147483647, 0), (1, 0, 0, 0, 1, 0), (3, 0, 4, 0, 7, 0)], 0, 0), (22, [])),
  (8, ([(1, 10, 0), (0, 0, 0), (8, 0, 0)], [], [(1, 4, 0, -2147483648, 2147483647, 0)], 0, 0), (1, [])),
  (9, ([(1, 10, 0), (0, 0, 0), (8, 0, 0)], [(0, 0, 0)], [(1, 4, 0, -2147483648, 2147483647, 0), (1, 0, 0, -1, -1, 0)], 0, 0), (0, [])),
  (10, ([(1, 10, 0), (0, 0, 0), (8, 0, 0)], [], [(1, 4, 0, 0, 7, 0)], 0, 0), (21, [])),
  (11, ([(1, 10, 0), (0, 0, 0), (8, 0, 0)], [(1, 10, 0)], [(1, 4, 0, 0, 7, 0)], 0, 0), (20, [])),
  (14, ([(1, 10, 0), (0, 0, 0), (8, 0, 0)], [(1, 6, 0)], [(1, 4, 0, 0, 7, 0)], 0, 0), (19, [])),
  (15, ([(1, 10, 0), (0, 0, 0), (8, 0, 0)], [(0, 0, 0), (1, 6, 0)], [(1, 4, 0, 0, 7, 0), (1, 3, 0, 3, 3, 0)], 0, 0), (18, [])),
  (16, ([(1, 10, 0), (0, 0, 0), (8, 0, 0)], [(0, 0, 0), (0, 0, 0), (1, 6, 0)], [(1, 4, 0, 0, 7, 0), (1, 3, 0, 3, 3, 0), (1, 6, 0, 0, 7, 0), (2, 6, 4, 1, 0, 0)], 0, 0), (17, [])),
  (17, ([(1, 10, 0), (0, 0, 0), (8, 0, 0)], [(0, 0, 0), (0, 0, 0), (0, 0, 0), (1, 6, 0)], [(1, 4, 0, 0, 7, 0), (1, 3, 0, 3, 3, 0), (1, 6, 0, 0, 7, 0), (1, 9, 0, 0, 0, 0), (2, 6, 4, 1, 0, 0)], 0, 0), (16, [])),
  (20, ([(1, 10, 0), (0, 0, 0), (8, 0, 0)], [(0, 0, 0)], [(1, 4, 0, 0, 7, 0), (1, 0, 0, 0, 1, 0)], 0, 0), (15, []))]
def kd_X10_die_0df2a5_1 : List (Nat × sf_D × sf_M) := [(21, ([(1, 10, 0), (0, 0, 0), (0, 0, 0)], [], [(1, 4, 0, 0, 7, 0), (1, 7, 0, 0, 1, 0)], 0, 0), (14, [])),
  (22, ([(1, 10, 0), (0, 0, 0), (0, 0, 0)], [(0, 0, 0)], [(1, 4, 0, 0, 7, 0), (1, 7, 0, 0, 1, 0), (1, 0, 0, 0, 1, 0), (2, 0, 7, 1, 0, 0)], 0, 0), (13, [])),
  (25, ([(1, 10, 0), (0, 0, 0), (0, 0, 0)], [], [(1, 4, 0, 0, 7, 0), (1, 7, 0, 0, 0, 0)], 0, 0), (12, [])),
  (26, ([(1, 10, 0), (0, 0, 0), (0, 0, 0)], [(1, 10, 0)], [(1, 4, 0, 0, 7, 0), (1, 7, 0, 0, 0, 0)], 0, 0), (11, [])),
  (29, ([(1, 10, 0), (0, 0, 0), (0, 0, 0)], [(1, 2, 0)], [(1, 4, 0, 0, 7, 0), (1, 7, 0, 0, 0, 0)], 0, 0), (10, [])),
  (30, ([(1, 10, 0), (0, 0, 0), (0, 0, 0)], [(1, 10, 0), (1, 2, 0)], [(1, 4, 0, 0, 7, 0), (1, 7, 0, 0, 0, 0)], 0, 0), (9, [])),
  (33, ([(1, 10, 0), (0, 0, 0), (0, 0, 0)], [(1, 6, 0), (1, 2, 0)], [(1, 4, 0, 0, 7, 0), (1, 7, 0, 0, 0, 0)], 0, 0), (8, [])),
  (36, ([(1, 10, 0), (0, 0, 0), (0, 0, 0)], [], [(1, 4, 0, 0, 7, 0), (1, 7, 0, 0, 0, 0)], 8, 138), (7, [])),
  (37, ([(1, 10, 0), (0, 0, 0), (0, 0, 0)], [(1, 10, 0)], [(1, 4, 0, 0, 7, 0), (1, 7, 0, 0, 0, 0)], 8, 138), (6, [])),
  (40, ([(1, 10, 0), (0, 0, 0), (0, 0, 0)], [(1, 6, 0)], [(1, 4, 0, 0, 7, 0), (1, 7, 0, 0, 0, 0)], 8, 138), (5, [])),
  (41, ([(1, 10, 0), (0, 0, 0), (0, 0, 0)], [(0, 0, 0), (1, 6, 0)], [(1, 4, 0, 0, 7, 0), (1, 7, 0, 0, 0, 0), (1, 3, 0, 3, 3, 0)], 8, 138), (4, []))]
def kd_X10_die_0df2a5_2 : List (Nat × sf_D × sf_M) := [(42, ([(1, 10, 0), (0, 0, 0), (0, 0, 0)], [(0, 0, 0), (0, 0, 0), (1, 6, 0)], [(1, 4, 0, 0, 7, 0), (1, 7, 0, 0, 0, 0), (1, 3, 0, 3, 3, 0), (1, 6, 0, 0, 7, 0), (2, 6, 4, 1, 0, 0)], 8, 138), (3, [])),
  (43, ([(1, 10, 0), (0, 0, 0), (0, 0, 0)], [(0, 0, 0), (0, 0, 0), (0, 0, 0), (1, 6, 0)], [(1, 4, 0, 0, 7, 0), (1, 7, 0, 0, 0, 0), (1, 3, 0, 3, 3, 0), (1, 6, 0, 0, 7, 0), (1, 9, 0, 0, 0, 0), (2, 6, 4, 1, 0, 0)], 8, 138), (2, [])),
  (46, ([(1, 10, 0), (0, 0, 0), (0, 0, 0)], [], [(1, 4, 0, 0, 7, 0), (1, 7, 0, 0, 1, 0)], 8, 138), (1, [])),
  (47, ([(1, 10, 0), (0, 0, 0), (0, 0, 0)], [(0, 0, 0)], [(1, 4, 0, 0, 7, 0), (1, 7, 0, 0, 1, 0), (1, 0, 0, 0, 1, 0), (2, 0, 7, 1, 0, 0)], 8, 138), (0, []))]
def kd_X10_die_0df2a5 : List (Nat × sf_D × sf_M) := kd_X10_die_0df2a5_0 ++ (kd_X10_die_0df2a5_1 ++ (kd_X10_die_0df2a5_2))
set_option maxRecDepth 100000 in
theorem kt_X10_die_0df2a5 : sf_chk [kq_X10_isMan_0df2a5, kq_X6_whyNot_16c192, kq_X2_keep_h, kq_X6_perform_16c192] kq_X10_die_0df2a5 3 kc_X10_die_0df2a5 kd_X10_die_0df2a5 = true := by decide +kernel
set_option maxRecDepth 100000 in
theorem kl_X10_die_0df2a5 : (kc_X10_die_0df2a5).map (fun c => (c.1, sf_den ([Z_X10_isMan, Z_X6_whyNot, Z_X2_keep, Z_X6_perform] : List sf_X) c.2)) = L_X10_die Z_X10_isMan Z_X6_whyNot Z_X2_keep Z_X6_perform := rfl
theorem ct_X10_die_0df2a5 : sf_ct kq_X10_die_0df2a5 Z_X10_die := by
  have h := sf_meth (K := [kq_X10_isMan_0df2a5, kq_X6_whyNot_16c192, kq_X2_keep_h, kq_X6_perform_16c192]) (E := [Z_X10_isMan, Z_X6_whyNot, Z_X2_keep, Z_X6_perform]) (k := kq_X10_die_0df2a5) (nL := 3) (C := kc_X10_die_0df2a5) (D := kd_X10_die_0df2a5) (fun m k hk => match m, hk with
    | 0, hk => (Option.some.inj hk) ▸ ct_X10_isMan_0df2a5
    | 1, hk => (Option.some.inj hk) ▸ ct_X6_whyNot_16c192
    | 2, hk => (Option.some.inj hk) ▸ ct_X2_keep_h
    | 3, hk => (Option.some.inj hk) ▸ ct_X6_perform_16c192
    | _ + 4, hk => (by cases hk)) kt_X10_die_0df2a5
  rw [kl_X10_die_0df2a5] at h
  exact h
def kq_X10_undo_4c18a7 : sf_Q := ([(1, 10, 0)], [], some (0, 0, 0), [(1, 0, 0, -1, 8, 0)], [(2, 1, 1), (6, 7, 9), (149, 0, 11), (150, 0, 11), (151, 0, 11), (152, 0, 11), (153, 0, 7), (154, 0, 7), (155, 0, 63)])
def kc_X10_undo_4c18a7 : List (Nat × sf_I) := [(0, 4, [1, 0]),
  (1, 23, [4, 10, 3]),
  (4, 4, [5, 0]),
  (5, 23, [8, 10, 4]),
  (8, 32, [11, 0, 2, 2, 0, 0, 0, 0]),
  (11, 35, [0, 0])]
def kd_X10_undo_4c18a7 : List (Nat × sf_D × sf_M) := [(0, ([(1, 10, 0)], [], [], 0, 0), (5, [])),
  (1, ([(1, 10, 0)], [(1, 10, 0)], [], 0, 0), (4, [])),
  (4, ([(1, 10, 0)], [(1, 2, 0)], [], 0, 0), (3, [])),
  (5, ([(1, 10, 0)], [(1, 10, 0), (1, 2, 0)], [], 0, 0), (2, [])),
  (8, ([(1, 10, 0)], [(1, 6, 0), (1, 2, 0)], [], 0, 0), (1, [])),
  (11, ([(1, 10, 0)], [(0, 0, 0)], [(1, 0, 0, -1, 8, 0)], 0, 0), (0, []))]
set_option maxRecDepth 100000 in
theorem kt_X10_undo_4c18a7 : sf_chk [kq_X2_takeBack_h] kq_X10_undo_4c18a7 1 kc_X10_undo_4c18a7 kd_X10_undo_4c18a7 = true := by decide +kernel
set_option maxRecDepth 100000 in
theorem kl_X10_undo_4c18a7 : (kc_X10_undo_4c18a7).map (fun c => (c.1, sf_den ([Z_X2_takeBack] : List sf_X) c.2)) = L_X10_undo Z_X2_takeBack := rfl
theorem ct_X10_undo_4c18a7 : sf_ct kq_X10_undo_4c18a7 Z_X10_undo := by
  have h := sf_meth (K := [kq_X2_takeBack_h]) (E := [Z_X2_takeBack]) (k := kq_X10_undo_4c18a7) (nL := 1) (C := kc_X10_undo_4c18a7) (D := kd_X10_undo_4c18a7) (fun m k hk => match m, hk with
    | 0, hk => (Option.some.inj hk) ▸ ct_X2_takeBack_h
    | _ + 1, hk => (by cases hk)) kt_X10_undo_4c18a7
  rw [kl_X10_undo_4c18a7] at h
  exact h
def kq_X10_lacks_0df2a5 : sf_Q := ([(1, 10, 0), (0, 0, 0)], [], some (0, 0, 0), [], [])
def kc_X10_lacks_0df2a5 : List (Nat × sf_I) := [(0, 2, [1, 1]),
  (1, 31, [4, 0, 1, 0, 0, 0, 0]),
  (4, 20, [7, 9, 1]),
  (7, 0, [8, -1]),
  (8, 35, [0, 0]),
  (9, 0, [10, 0]),
  (10, 5, [11, 2]),
  (11, 0, [12, 0]),
  (12, 5, [13, 3]),
  (13, 2, [14, 3]),
  (14, 4, [15, 0]),
  (15, 23, [18, 10, 13]),
  (18, 23, [21, 7, 8]),
  (21, 21, [24, 55, 5]),
  (24, 4, [25, 0]),
  (25, 23, [28, 10, 4]),
  (28, 4, [29, 0]),
  (29, 23, [32, 10, 13]),
  (32, 2, [33, 3]),
  (33, 2, [34, 1]),
  (34, 31, [37, 1, 2, 0, 0, 0, 0]),
  (37, 32, [40, 2, 3, 6, 0, 0, 0, 0]),
  (40, 20, [43, 49, 3]),
  (43, 2, [44, 2]),
  (44, 0, [45, 1]),
  (45, 2, [46, 3]),
  (46, 9, [47, 6]),
  (47, 9, [48, 4]),
  (48, 5, [49, 2]),
  (49, 8, [52, 3, 1]),
  (52, 22, [13]),
  (55, 2, [56, 2]),
  (56, 35, [0, 0])]
def kd_X10_lacks_0df2a5_0 : List (Nat × sf_D × sf_M) := [(0, ([(1, 10, 0), (0, 0, 0), (8, 0, 0), (8, 0, 0)], [], [], 0, 0), (171, [])),
  (1, ([(1, 10, 0), (0, 0, 0), (8, 0, 0), (8, 0, 0)], [(0, 0, 0)], [(1, 0, 0, -2147483648, 2147483647, 0), (1, 4, 0, -2147483648, 2147483647, 0), (2, 0, 4, 1, 0, 0)], 0, 0), (170, [])),
  (4, ([(1, 10, 0), (0, 0, 0), (8, 0, 0), (8, 0, 0)], [(0, 0, 0)], [(1, 4, 0, -2147483648, 2147483647, 0), (1, 0, 0, 0, 1, 0), (3, 0, 4, 0, 1, 0)], 0, 0), (169, [])),
  (7, ([(1, 10, 0), (0, 0, 0), (8, 0, 0), (8, 0, 0)], [], [(1, 4, 0, -2147483648, 2147483647, 0)], 0, 0), (1, [])),
  (8, ([(1, 10, 0), (0, 0, 0), (8, 0, 0), (8, 0, 0)], [(0, 0, 0)], [(1, 4, 0, -2147483648, 2147483647, 0), (1, 0, 0, -1, -1, 0)], 0, 0), (0, [])),
  (9, ([(1, 10, 0), (0, 0, 0), (8, 0, 0), (8, 0, 0)], [], [(1, 4, 0, 0, 1, 0)], 0, 0), (168, [])),
  (10, ([(1, 10, 0), (0, 0, 0), (8, 0, 0), (8, 0, 0)], [(0, 0, 0)], [(1, 4, 0, 0, 1, 0), (1, 0, 0, 0, 0, 0)], 0, 0), (167, [])),
  (11, ([(1, 10, 0), (0, 0, 0), (0, 0, 0), (8, 0, 0)], [], [(1, 4, 0, 0, 1, 0), (1, 7, 0, 0, 0, 0)], 0, 0), (166, [])),
  (12, ([(1, 10, 0), (0, 0, 0), (0, 0, 0), (8, 0, 0)], [(0, 0, 0)], [(1, 4, 0, 0, 1, 0), (1, 7, 0, 0, 0, 0), (1, 0, 0, 0, 0, 0)], 0, 0), (165, [])),
  (13, ([(1, 10, 0), (0, 0, 0), (0, 0, 0), (0, 0, 0)], [], [(1, 4, 0, 0, 1, 0), (1, 7, 0, -2147483648, 2147483647, 0), (1, 10, 0, 0, 6, 0)], 0, 0), (20, [(24, 10, 6, 0)]))]
def kd_X10_lacks_0df2a5_1 : List (Nat × sf_D × sf_M) := [(14, ([(1, 10, 0), (0, 0, 0), (0, 0, 0), (0, 0, 0)], [(0, 0, 0)], [(1, 4, 0, 0, 1, 0), (1, 7, 0, -2147483648, 2147483647, 0), (1, 10, 0, 0, 6, 0), (1, 0, 0, 0, 6, 0), (2, 0, 10, 1, 0, 0)], 0, 0), (19, [(24, 10, 6, 0)])),
  (15, ([(1, 10, 0), (0, 0, 0), (0, 0, 0), (0, 0, 0)], [(1, 10, 0), (0, 0, 0)], [(1, 4, 0, 0, 1, 0), (1, 7, 0, -2147483648, 2147483647, 0), (1, 10, 0, 0, 6, 0), (1, 0, 0, 0, 6, 0), (2, 0, 10, 1, 0, 0)], 0, 0), (18, [(24, 10, 6, 0)])),
  (18, ([(1, 10, 0), (0, 0, 0), (0, 0, 0), (0, 0, 0)], [(1, 7, 0), (0, 0, 0)], [(1, 4, 0, 0, 1, 0), (1, 7, 0, -2147483648, 2147483647, 0), (1, 10, 0, 0, 6, 0), (1, 0, 0, 0, 6, 0), (2, 0, 10, 1, 0, 0)], 0, 0), (17, [(24, 10, 6, 0)])),
  (21, ([(1, 10, 0), (0, 0, 0), (0, 0, 0), (0, 0, 0)], [(0, 0, 6), (0, 0, 0)], [(1, 4, 0, 0, 1, 0), (1, 7, 0, -2147483648, 2147483647, 0), (1, 10, 0, 0, 6, 0), (1, 0, 0, 0, 6, 0), (1, 3, 0, 0, 6, 0), (2, 0, 10, 1, 0, 0)], 0, 0), (16, [(24, 10, 6, 0)])),
  (24, ([(1, 10, 0), (0, 0, 0), (0, 0, 0), (0, 0, 0)], [], [(1, 4, 0, 0, 1, 0), (1, 7, 0, -2147483648, 2147483647, 0), (1, 10, 0, 0, 5, 0)], 0, 0), (15, [(24, 10, 6, 0)])),
  (25, ([(1, 10, 0), (0, 0, 0), (0, 0, 0), (0, 0, 0)], [(1, 10, 0)], [(1, 4, 0, 0, 1, 0), (1, 7, 0, -2147483648, 2147483647, 0), (1, 10, 0, 0, 5, 0)], 0, 0), (14, [(24, 10, 6, 0)]))]
def kd_X10_lacks_0df2a5_2 : List (Nat × sf_D × sf_M) := [(28, ([(1, 10, 0), (0, 0, 0), (0, 0, 0), (0, 0, 0)], [(1, 6, 0)], [(1, 4, 0, 0, 1, 0), (1, 7, 0, -2147483648, 2147483647, 0), (1, 10, 0, 0, 5, 0)], 0, 0), (13, [(24, 10, 6, 0)])),
  (29, ([(1, 10, 0), (0, 0, 0), (0, 0, 0), (0, 0, 0)], [(1, 10, 0), (1, 6, 0)], [(1, 4, 0, 0, 1, 0), (1, 7, 0, -2147483648, 2147483647, 0), (1, 10, 0, 0, 5, 0)], 0, 0), (12, [(24, 10, 6, 0)])),
  (32, ([(1, 10, 0), (0, 0, 0), (0, 0, 0), (0, 0, 0)], [(1, 7, 0), (1, 6, 0)], [(1, 4, 0, 0, 1, 0), (1, 7, 0, -2147483648, 2147483647, 0), (1, 10, 0, 0, 5, 0)], 0, 0), (11, [(24, 10, 6, 0)])),
  (33, ([(1, 10, 0), (0, 0, 0), (0, 0, 0), (0, 0, 0)], [(0, 0, 0), (1, 7, 0), (1, 6, 0)], [(1, 4, 0, 0, 1, 0), (1, 7, 0, -2147483648, 2147483647, 0), (1, 10, 0, 0, 5, 0), (1, 6, 0, 0, 5, 0), (2, 6, 10, 1, 0, 0)], 0, 0), (10, [(24, 10, 6, 0)])),
  (34, ([(1, 10, 0), (0, 0, 0), (0, 0, 0), (0, 0, 0)], [(0, 0, 0), (0, 0, 0), (1, 7, 0), (1, 6, 0)], [(1, 4, 0, 0, 1, 0), (1, 7, 0, -2147483648, 2147483647, 0), (1, 10, 0, 0, 5, 0), (1, 6, 0, 0, 5, 0), (1, 9, 0, 0, 1, 0), (2, 6, 10, 1, 0, 0), (2, 9, 4, 1, 0, 0)], 0, 0), (9, [(24, 10, 6, 0)])),
  (37, ([(1, 10, 0), (0, 0, 0), (0, 0, 0), (0, 0, 0)], [(0, 0, 0), (1, 7, 0), (1, 6, 0)], [(1, 4, 0, 0, 1, 0), (1, 7, 0, -2147483648, 2147483647, 0), (1, 10, 0, 0, 5, 0), (1, 6, 0, 0, 11, 0)], 0, 0), (8, [(24, 10, 6, 0)]))]
def kd_X10_lacks_0df2a5_3 : List (Nat × sf_D × sf_M) := [(40, ([(1, 10, 0), (0, 0, 0), (0, 0, 0), (0, 0, 0)], [(0, 0, 0)], [(1, 4, 0, 0, 1, 0), (1, 7, 0, -2147483648, 2147483647, 0), (1, 10, 0, 0, 5, 0), (1, 0, 0, 0, 250, 0)], 0, 0), (7, [(24, 10, 6, 0)])),
  (43, ([(1, 10, 0), (0, 0, 0), (0, 0, 0), (0, 0, 0)], [], [(1, 4, 0, 0, 1, 0), (1, 7, 0, -2147483648, 2147483647, 0), (1, 10, 0, 0, 5, 0)], 0, 0), (6, [(24, 10, 6, 0)])),
  (44, ([(1, 10, 0), (0, 0, 0), (0, 0, 0), (0, 0, 0)], [(0, 0, 0)], [(1, 4, 0, 0, 1, 0), (1, 7, 0, -2147483648, 2147483647, 0), (1, 10, 0, 0, 5, 0), (1, 0, 0, -2147483648, 2147483647, 0), (2, 0, 7, 1, 0, 0)], 0, 0), (5, [(24, 10, 6, 0)])),
  (45, ([(1, 10, 0), (0, 0, 0), (0, 0, 0), (0, 0, 0)], [(0, 0, 0), (0, 0, 0)], [(1, 4, 0, 0, 1, 0), (1, 7, 0, -2147483648, 2147483647, 0), (1, 10, 0, 0, 5, 0), (1, 0, 0, -2147483648, 2147483647, 0), (1, 3, 0, 1, 1, 0), (2, 0, 7, 1, 0, 0)], 0, 0), (4, [(24, 10, 6, 0)])),
  (46, ([(1, 10, 0), (0, 0, 0), (0, 0, 0), (0, 0, 0)], [(0, 0, 0), (0, 0, 0), (0, 0, 0)], [(1, 4, 0, 0, 1, 0), (1, 7, 0, -2147483648, 2147483647, 0), (1, 10, 0, 0, 5, 0), (1, 0, 0, -2147483648, 2147483647, 0), (1, 3, 0, 1, 1, 0), (1, 6, 0, 0, 5, 0), (2, 0, 7, 1, 0, 0), (2, 6, 10, 1, 0, 0)], 0, 0), (3, [(24, 10, 6, 0)]))]
def kd_X10_lacks_0df2a5_4 : List (Nat × sf_D × sf_M) := [(47, ([(1, 10, 0), (0, 0, 0), (0, 0, 0), (0, 0, 0)], [(0, 0, 0), (0, 0, 0)], [(1, 4, 0, 0, 1, 0), (1, 7, 0, -2147483648, 2147483647, 0), (1, 10, 0, 0, 5, 0), (1, 0, 0, -2147483648, 2147483647, 0), (1, 3, 0, -2147483648, 2147483647, 0), (2, 0, 7, 1, 0, 0)], 0, 0), (2, [(24, 10, 6, 0)])),
  (48, ([(1, 10, 0), (0, 0, 0), (0, 0, 0), (0, 0, 0)], [(0, 0, 0)], [(1, 4, 0, 0, 1, 0), (1, 7, 0, -2147483648, 2147483647, 0), (1, 10, 0, 0, 5, 0), (1, 0, 0, -2147483648, 2147483647, 0)], 0, 0), (1, [(24, 10, 6, 0)])),
  (49, ([(1, 10, 0), (0, 0, 0), (0, 0, 0), (0, 0, 0)], [], [(1, 4, 0, 0, 1, 0), (1, 7, 0, -2147483648, 2147483647, 0), (1, 10, 0, 0, 5, 0)], 0, 0), (0, [(24, 10, 6, 0)])),
  (52, ([(1, 10, 0), (0, 0, 0), (0, 0, 0), (0, 0, 0)], [], [(1, 4, 0, 0, 1, 0), (1, 7, 0, -2147483648, 2147483647, 0), (1, 10, 0, 1, 6, 0)], 0, 0), (21, [(24, 10, 6, 0)])),
  (55, ([(1, 10, 0), (0, 0, 0), (0, 0, 0), (0, 0, 0)], [], [(1, 4, 0, 0, 1, 0), (1, 7, 0, -2147483648, 2147483647, 0), (1, 10, 0, 0, 6, 0)], 0, 0), (1, [])),
  (56, ([(1, 10, 0), (0, 0, 0), (0, 0, 0), (0, 0, 0)], [(0, 0, 0)], [(1, 4, 0, 0, 1, 0), (1, 7, 0, -2147483648, 2147483647, 0), (1, 10, 0, 0, 6, 0), (1, 0, 0, -2147483648, 2147483647, 0), (2, 0, 7, 1, 0, 0)], 0, 0), (0, []))]
def kd_X10_lacks_0df2a5 : List (Nat × sf_D × sf_M) := kd_X10_lacks_0df2a5_0 ++ (kd_X10_lacks_0df2a5_1 ++ (kd_X10_lacks_0df2a5_2 ++ (kd_X10_lacks_0df2a5_3 ++ (kd_X10_lacks_0df2a5_4))))
set_option maxRecDepth 100000 in
theorem kt_X10_lacks_0df2a5 : sf_chk [kq_X10_isShore_4956e8, kq_X10_slotOf_2f4f15, kq_X6_lackAt_865e4b] kq_X10_lacks_0df2a5 4 kc_X10_lacks_0df2a5 kd_X10_lacks_0df2a5 = true := by decide +kernel
set_option maxRecDepth 100000 in
theorem kl_X10_lacks_0df2a5 : (kc_X10_lacks_0df2a5).map (fun c => (c.1, sf_den ([Z_X10_isShore, Z_X10_slotOf, Z_X6_lackAt] : List sf_X) c.2)) = L_X10_lacks Z_X10_isShore Z_X10_slotOf Z_X6_lackAt := rfl
theorem ct_X10_lacks_0df2a5 : sf_ct kq_X10_lacks_0df2a5 Z_X10_lacks := by
  have h := sf_meth (K := [kq_X10_isShore_4956e8, kq_X10_slotOf_2f4f15, kq_X6_lackAt_865e4b]) (E := [Z_X10_isShore, Z_X10_slotOf, Z_X6_lackAt]) (k := kq_X10_lacks_0df2a5) (nL := 4) (C := kc_X10_lacks_0df2a5) (D := kd_X10_lacks_0df2a5) (fun m k hk => match m, hk with
    | 0, hk => (Option.some.inj hk) ▸ ct_X10_isShore_4956e8
    | 1, hk => (Option.some.inj hk) ▸ ct_X10_slotOf_2f4f15
    | 2, hk => (Option.some.inj hk) ▸ ct_X6_lackAt_865e4b
    | _ + 3, hk => (by cases hk)) kt_X10_lacks_0df2a5
  rw [kl_X10_lacks_0df2a5] at h
  exact h
def kq_X10_falses_0df2a5 : sf_Q := ([(1, 10, 0), (0, 0, 0)], [], some (0, 0, 0), [], [])
def kc_X10_falses_0df2a5 : List (Nat × sf_I) := [(0, 2, [1, 1]),
  (1, 31, [4, 0, 1, 0, 0, 0, 0]),
  (4, 20, [7, 9, 1]),
  (7, 0, [8, -1]),
  (8, 35, [0, 0]),
  (9, 0, [10, 0]),
  (10, 5, [11, 2]),
  (11, 0, [12, 0]),
  (12, 5, [13, 3]),
  (13, 2, [14, 3]),
  (14, 4, [15, 0]),
  (15, 23, [18, 10, 13]),
  (18, 23, [21, 7, 8]),
  (21, 21, [24, 55, 5]),
  (24, 4, [25, 0]),
  (25, 23, [28, 10, 4]),
  (28, 4, [29, 0]),
  (29, 23, [32, 10, 13]),
  (32, 2, [33, 3]),
  (33, 2, [34, 1]),
  (34, 31, [37, 1, 2, 0, 0, 0, 0]),
  (37, 32, [40, 2, 3, 6, 0, 0, 0, 0]),
  (40, 20, [43, 49, 0]),
  (43, 2, [44, 2]),
  (44, 0, [45, 1]),
  (45, 2, [46, 3]),
  (46, 9, [47, 6]),
  (47, 9, [48, 4]),
  (48, 5, [49, 2]),
  (49, 8, [52, 3, 1]),
  (52, 22, [13]),
  (55, 2, [56, 2]),
  (56, 35, [0, 0])]
def kd_X10_falses_0df2a5_0 : List (Nat × sf_D × sf_M) := [(0, ([(1, 10, 0), (0, 0, 0), (8, 0, 0), (8, 0, 0)], [], [], 0, 0), (171, [])),
  (1, ([(1, 10, 0), (0, 0, 0), (8, 0, 0), (8, 0, 0)], [(0, 0, 0)], [(1, 0, 0, -2147483648, 2147483647, 0), (1, 4, 0, -2147483648, 2147483647, 0), (2, 0, 4, 1, 0, 0)], 0, 0), (170, [])),
  (4, ([(1, 10, 0), (0, 0, 0), (8, 0, 0), (8, 0, 0)], [(0, 0, 0)], [(1, 4, 0, -2147483648, 2147483647, 0), (1, 0, 0, 0, 1, 0), (3, 0, 4, 0, 1, 0)], 0, 0), (169, [])),
  (7, ([(1, 10, 0), (0, 0, 0), (8, 0, 0), (8, 0, 0)], [], [(1, 4, 0, -2147483648, 2147483647, 0)], 0, 0), (1, [])),
  (8, ([(1, 10, 0), (0, 0, 0), (8, 0, 0), (8, 0, 0)], [(0, 0, 0)], [(1, 4, 0, -2147483648, 2147483647, 0), (1, 0, 0, -1, -1, 0)], 0, 0), (0, [])),
  (9, ([(1, 10, 0), (0, 0, 0), (8, 0, 0), (8, 0, 0)], [], [(1, 4, 0, 0, 1, 0)], 0, 0), (168, [])),
  (10, ([(1, 10, 0), (0, 0, 0), (8, 0, 0), (8, 0, 0)], [(0, 0, 0)], [(1, 4, 0, 0, 1, 0), (1, 0, 0, 0, 0, 0)], 0, 0), (167, [])),
  (11, ([(1, 10, 0), (0, 0, 0), (0, 0, 0), (8, 0, 0)], [], [(1, 4, 0, 0, 1, 0), (1, 7, 0, 0, 0, 0)], 0, 0), (166, [])),
  (12, ([(1, 10, 0), (0, 0, 0), (0, 0, 0), (8, 0, 0)], [(0, 0, 0)], [(1, 4, 0, 0, 1, 0), (1, 7, 0, 0, 0, 0), (1, 0, 0, 0, 0, 0)], 0, 0), (165, [])),
  (13, ([(1, 10, 0), (0, 0, 0), (0, 0, 0), (0, 0, 0)], [], [(1, 4, 0, 0, 1, 0), (1, 7, 0, -2147483648, 2147483647, 0), (1, 10, 0, 0, 6, 0)], 0, 0), (20, [(24, 10, 6, 0)]))]
def kd_X10_falses_0df2a5_1 : List (Nat × sf_D × sf_M) := [(14, ([(1, 10, 0), (0, 0, 0), (0, 0, 0), (0, 0, 0)], [(0, 0, 0)], [(1, 4, 0, 0, 1, 0), (1, 7, 0, -2147483648, 2147483647, 0), (1, 10, 0, 0, 6, 0), (1, 0, 0, 0, 6, 0), (2, 0, 10, 1, 0, 0)], 0, 0), (19, [(24, 10, 6, 0)])),
  (15, ([(1, 10, 0), (0, 0, 0), (0, 0, 0), (0, 0, 0)], [(1, 10, 0), (0, 0, 0)], [(1, 4, 0, 0, 1, 0), (1, 7, 0, -2147483648, 2147483647, 0), (1, 10, 0, 0, 6, 0), (1, 0, 0, 0, 6, 0), (2, 0, 10, 1, 0, 0)], 0, 0), (18, [(24, 10, 6, 0)])),
  (18, ([(1, 10, 0), (0, 0, 0), (0, 0, 0), (0, 0, 0)], [(1, 7, 0), (0, 0, 0)], [(1, 4, 0, 0, 1, 0), (1, 7, 0, -2147483648, 2147483647, 0), (1, 10, 0, 0, 6, 0), (1, 0, 0, 0, 6, 0), (2, 0, 10, 1, 0, 0)], 0, 0), (17, [(24, 10, 6, 0)])),
  (21, ([(1, 10, 0), (0, 0, 0), (0, 0, 0), (0, 0, 0)], [(0, 0, 6), (0, 0, 0)], [(1, 4, 0, 0, 1, 0), (1, 7, 0, -2147483648, 2147483647, 0), (1, 10, 0, 0, 6, 0), (1, 0, 0, 0, 6, 0), (1, 3, 0, 0, 6, 0), (2, 0, 10, 1, 0, 0)], 0, 0), (16, [(24, 10, 6, 0)])),
  (24, ([(1, 10, 0), (0, 0, 0), (0, 0, 0), (0, 0, 0)], [], [(1, 4, 0, 0, 1, 0), (1, 7, 0, -2147483648, 2147483647, 0), (1, 10, 0, 0, 5, 0)], 0, 0), (15, [(24, 10, 6, 0)])),
  (25, ([(1, 10, 0), (0, 0, 0), (0, 0, 0), (0, 0, 0)], [(1, 10, 0)], [(1, 4, 0, 0, 1, 0), (1, 7, 0, -2147483648, 2147483647, 0), (1, 10, 0, 0, 5, 0)], 0, 0), (14, [(24, 10, 6, 0)]))]
def kd_X10_falses_0df2a5_2 : List (Nat × sf_D × sf_M) := [(28, ([(1, 10, 0), (0, 0, 0), (0, 0, 0), (0, 0, 0)], [(1, 6, 0)], [(1, 4, 0, 0, 1, 0), (1, 7, 0, -2147483648, 2147483647, 0), (1, 10, 0, 0, 5, 0)], 0, 0), (13, [(24, 10, 6, 0)])),
  (29, ([(1, 10, 0), (0, 0, 0), (0, 0, 0), (0, 0, 0)], [(1, 10, 0), (1, 6, 0)], [(1, 4, 0, 0, 1, 0), (1, 7, 0, -2147483648, 2147483647, 0), (1, 10, 0, 0, 5, 0)], 0, 0), (12, [(24, 10, 6, 0)])),
  (32, ([(1, 10, 0), (0, 0, 0), (0, 0, 0), (0, 0, 0)], [(1, 7, 0), (1, 6, 0)], [(1, 4, 0, 0, 1, 0), (1, 7, 0, -2147483648, 2147483647, 0), (1, 10, 0, 0, 5, 0)], 0, 0), (11, [(24, 10, 6, 0)])),
  (33, ([(1, 10, 0), (0, 0, 0), (0, 0, 0), (0, 0, 0)], [(0, 0, 0), (1, 7, 0), (1, 6, 0)], [(1, 4, 0, 0, 1, 0), (1, 7, 0, -2147483648, 2147483647, 0), (1, 10, 0, 0, 5, 0), (1, 6, 0, 0, 5, 0), (2, 6, 10, 1, 0, 0)], 0, 0), (10, [(24, 10, 6, 0)])),
  (34, ([(1, 10, 0), (0, 0, 0), (0, 0, 0), (0, 0, 0)], [(0, 0, 0), (0, 0, 0), (1, 7, 0), (1, 6, 0)], [(1, 4, 0, 0, 1, 0), (1, 7, 0, -2147483648, 2147483647, 0), (1, 10, 0, 0, 5, 0), (1, 6, 0, 0, 5, 0), (1, 9, 0, 0, 1, 0), (2, 6, 10, 1, 0, 0), (2, 9, 4, 1, 0, 0)], 0, 0), (9, [(24, 10, 6, 0)])),
  (37, ([(1, 10, 0), (0, 0, 0), (0, 0, 0), (0, 0, 0)], [(0, 0, 0), (1, 7, 0), (1, 6, 0)], [(1, 4, 0, 0, 1, 0), (1, 7, 0, -2147483648, 2147483647, 0), (1, 10, 0, 0, 5, 0), (1, 6, 0, 0, 11, 0)], 0, 0), (8, [(24, 10, 6, 0)]))]
def kd_X10_falses_0df2a5_3 : List (Nat × sf_D × sf_M) := [(40, ([(1, 10, 0), (0, 0, 0), (0, 0, 0), (0, 0, 0)], [(0, 0, 0)], [(1, 4, 0, 0, 1, 0), (1, 7, 0, -2147483648, 2147483647, 0), (1, 10, 0, 0, 5, 0), (1, 0, 0, 0, 1, 0)], 0, 0), (7, [(24, 10, 6, 0)])),
  (43, ([(1, 10, 0), (0, 0, 0), (0, 0, 0), (0, 0, 0)], [], [(1, 4, 0, 0, 1, 0), (1, 7, 0, -2147483648, 2147483647, 0), (1, 10, 0, 0, 5, 0)], 0, 0), (6, [(24, 10, 6, 0)])),
  (44, ([(1, 10, 0), (0, 0, 0), (0, 0, 0), (0, 0, 0)], [(0, 0, 0)], [(1, 4, 0, 0, 1, 0), (1, 7, 0, -2147483648, 2147483647, 0), (1, 10, 0, 0, 5, 0), (1, 0, 0, -2147483648, 2147483647, 0), (2, 0, 7, 1, 0, 0)], 0, 0), (5, [(24, 10, 6, 0)])),
  (45, ([(1, 10, 0), (0, 0, 0), (0, 0, 0), (0, 0, 0)], [(0, 0, 0), (0, 0, 0)], [(1, 4, 0, 0, 1, 0), (1, 7, 0, -2147483648, 2147483647, 0), (1, 10, 0, 0, 5, 0), (1, 0, 0, -2147483648, 2147483647, 0), (1, 3, 0, 1, 1, 0), (2, 0, 7, 1, 0, 0)], 0, 0), (4, [(24, 10, 6, 0)])),
  (46, ([(1, 10, 0), (0, 0, 0), (0, 0, 0), (0, 0, 0)], [(0, 0, 0), (0, 0, 0), (0, 0, 0)], [(1, 4, 0, 0, 1, 0), (1, 7, 0, -2147483648, 2147483647, 0), (1, 10, 0, 0, 5, 0), (1, 0, 0, -2147483648, 2147483647, 0), (1, 3, 0, 1, 1, 0), (1, 6, 0, 0, 5, 0), (2, 0, 7, 1, 0, 0), (2, 6, 10, 1, 0, 0)], 0, 0), (3, [(24, 10, 6, 0)]))]
def kd_X10_falses_0df2a5_4 : List (Nat × sf_D × sf_M) := [(47, ([(1, 10, 0), (0, 0, 0), (0, 0, 0), (0, 0, 0)], [(0, 0, 0), (0, 0, 0)], [(1, 4, 0, 0, 1, 0), (1, 7, 0, -2147483648, 2147483647, 0), (1, 10, 0, 0, 5, 0), (1, 0, 0, -2147483648, 2147483647, 0), (1, 3, 0, -2147483648, 2147483647, 0), (2, 0, 7, 1, 0, 0)], 0, 0), (2, [(24, 10, 6, 0)])),
  (48, ([(1, 10, 0), (0, 0, 0), (0, 0, 0), (0, 0, 0)], [(0, 0, 0)], [(1, 4, 0, 0, 1, 0), (1, 7, 0, -2147483648, 2147483647, 0), (1, 10, 0, 0, 5, 0), (1, 0, 0, -2147483648, 2147483647, 0)], 0, 0), (1, [(24, 10, 6, 0)])),
  (49, ([(1, 10, 0), (0, 0, 0), (0, 0, 0), (0, 0, 0)], [], [(1, 4, 0, 0, 1, 0), (1, 7, 0, -2147483648, 2147483647, 0), (1, 10, 0, 0, 5, 0)], 0, 0), (0, [(24, 10, 6, 0)])),
  (52, ([(1, 10, 0), (0, 0, 0), (0, 0, 0), (0, 0, 0)], [], [(1, 4, 0, 0, 1, 0), (1, 7, 0, -2147483648, 2147483647, 0), (1, 10, 0, 1, 6, 0)], 0, 0), (21, [(24, 10, 6, 0)])),
  (55, ([(1, 10, 0), (0, 0, 0), (0, 0, 0), (0, 0, 0)], [], [(1, 4, 0, 0, 1, 0), (1, 7, 0, -2147483648, 2147483647, 0), (1, 10, 0, 0, 6, 0)], 0, 0), (1, [])),
  (56, ([(1, 10, 0), (0, 0, 0), (0, 0, 0), (0, 0, 0)], [(0, 0, 0)], [(1, 4, 0, 0, 1, 0), (1, 7, 0, -2147483648, 2147483647, 0), (1, 10, 0, 0, 6, 0), (1, 0, 0, -2147483648, 2147483647, 0), (2, 0, 7, 1, 0, 0)], 0, 0), (0, []))]
def kd_X10_falses_0df2a5 : List (Nat × sf_D × sf_M) := kd_X10_falses_0df2a5_0 ++ (kd_X10_falses_0df2a5_1 ++ (kd_X10_falses_0df2a5_2 ++ (kd_X10_falses_0df2a5_3 ++ (kd_X10_falses_0df2a5_4))))
set_option maxRecDepth 100000 in
theorem kt_X10_falses_0df2a5 : sf_chk [kq_X10_isShore_4956e8, kq_X10_slotOf_2f4f15, kq_X6_isFalse_865e4b] kq_X10_falses_0df2a5 4 kc_X10_falses_0df2a5 kd_X10_falses_0df2a5 = true := by decide +kernel
set_option maxRecDepth 100000 in
theorem kl_X10_falses_0df2a5 : (kc_X10_falses_0df2a5).map (fun c => (c.1, sf_den ([Z_X10_isShore, Z_X10_slotOf, Z_X6_isFalse] : List sf_X) c.2)) = L_X10_falses Z_X10_isShore Z_X10_slotOf Z_X6_isFalse := rfl
theorem ct_X10_falses_0df2a5 : sf_ct kq_X10_falses_0df2a5 Z_X10_falses := by
  have h := sf_meth (K := [kq_X10_isShore_4956e8, kq_X10_slotOf_2f4f15, kq_X6_isFalse_865e4b]) (E := [Z_X10_isShore, Z_X10_slotOf, Z_X6_isFalse]) (k := kq_X10_falses_0df2a5) (nL := 4) (C := kc_X10_falses_0df2a5) (D := kd_X10_falses_0df2a5) (fun m k hk => match m, hk with
    | 0, hk => (Option.some.inj hk) ▸ ct_X10_isShore_4956e8
    | 1, hk => (Option.some.inj hk) ▸ ct_X10_slotOf_2f4f15
    | 2, hk => (Option.some.inj hk) ▸ ct_X6_isFalse_865e4b
    | _ + 3, hk => (by cases hk)) kt_X10_falses_0df2a5
  rw [kl_X10_falses_0df2a5] at h
  exact h
end
-- 63.b08.lean.txt
section
def kq_X10_isWithin_0d71f4 : sf_Q := ([(0, 0, 0), (0, 0, 0)], [(1, 3, 0, 60, 60, 0)], some (0, 0, 0), [(1, 0, 0, 0, 1, 0), (3, 0, 3, 1, 60, 0)], [])
def kc_X10_isWithin_0d71f4 : List (Nat × sf_I) := [(0, 2, [1, 0]),
  (1, 0, [2, 1]),
  (2, 21, [5, 14, 2]),
  (5, 2, [6, 0]),
  (6, 2, [7, 1]),
  (7, 21, [10, 14, 4]),
  (10, 0, [11, 1]),
  (11, 22, [15]),
  (14, 0, [15, 0]),
  (15, 36, [0, 0])]
def kd_X10_isWithin_0d71f4_0 : List (Nat × sf_D × sf_M) := [(0, ([(0, 0, 0), (0, 0, 0)], [], [(1, 4, 0, 60, 60, 0)], 0, 0), (8, [])),
  (1, ([(0, 0, 0), (0, 0, 0)], [(0, 0, 0)], [(1, 4, 0, 60, 60, 0), (1, 0, 0, -2147483648, 2147483647, 0), (1, 1, 0, -2147483648, 2147483647, 0), (2, 0, 1, 1, 0, 0)], 0, 0), (7, [])),
  (2, ([(0, 0, 0), (0, 0, 0)], [(0, 0, 0), (0, 0, 0)], [(1, 4, 0, 60, 60, 0), (1, 0, 0, -2147483648, 2147483647, 0), (1, 1, 0, -2147483648, 2147483647, 0), (1, 3, 0, 1, 1, 0), (2, 0, 1, 1, 0, 0)], 0, 0), (6, [])),
  (5, ([(0, 0, 0), (0, 0, 0)], [], [(1, 4, 0, 60, 60, 0), (1, 1, 0, 1, 2147483647, 0)], 0, 0), (5, [])),
  (6, ([(0, 0, 0), (0, 0, 0)], [(0, 0, 0)], [(1, 4, 0, 60, 60, 0), (1, 1, 0, 1, 2147483647, 0), (1, 0, 0, 1, 2147483647, 0), (2, 0, 1, 1, 0, 0)], 0, 0), (4, [])),
  (7, ([(0, 0, 0), (0, 0, 0)], [(0, 0, 0), (0, 0, 0)], [(1, 4, 0, 60, 60, 0), (1, 1, 0, 1, 2147483647, 0), (1, 0, 0, 1, 2147483647, 0), (1, 3, 0, 60, 60, 0), (2, 0, 1, 1, 0, 0), (2, 3, 4, 1, 0, 0)], 0, 0), (3, [])),
  (10, ([(0, 0, 0), (0, 0, 0)], [], [(1, 4, 0, 60, 60, 0), (1, 1, 0, 1, 60, 0)], 0, 0), (2, [])),
  (11, ([(0, 0, 0), (0, 0, 0)], [(0, 0, 0)], [(1, 4, 0, 60, 60, 0), (1, 1, 0, 1, 60, 0), (1, 0, 0, 1, 1, 0)], 0, 0), (1, [])),
  (14, ([(0, 0, 0), (0, 0, 0)], [], [(1, 4, 0, 60, 60, 0), (1, 1, 0, -2147483648, 2147483647, 0)], 0, 0), (1, []))]
def kd_X10_isWithin_0d71f4_1 : List (Nat × sf_D × sf_M) := [(15, ([(0, 0, 0), (0, 0, 0)], [(0, 0, 0)], [(1, 4, 0, 60, 60, 0), (1, 1, 0, -2147483648, 2147483647, 0), (1, 0, 0, 0, 1, 0), (3, 0, 1, 1, 60, 0)], 0, 0), (0, []))]
def kd_X10_isWithin_0d71f4 : List (Nat × sf_D × sf_M) := kd_X10_isWithin_0d71f4_0 ++ (kd_X10_isWithin_0d71f4_1)
set_option maxRecDepth 100000 in
theorem kt_X10_isWithin_0d71f4 : sf_chk [] kq_X10_isWithin_0d71f4 2 kc_X10_isWithin_0d71f4 kd_X10_isWithin_0d71f4 = true := by decide +kernel
set_option maxRecDepth 100000 in
theorem kl_X10_isWithin_0d71f4 : (kc_X10_isWithin_0d71f4).map (fun c => (c.1, sf_den ([] : List sf_X) c.2)) = L_X10_isWithin := rfl
theorem ct_X10_isWithin_0d71f4 : sf_ct kq_X10_isWithin_0d71f4 Z_X10_isWithin := by
  have h := sf_meth (K := []) (E := []) (k := kq_X10_isWithin_0d71f4) (nL := 2) (C := kc_X10_isWithin_0d71f4) (D := kd_X10_isWithin_0d71f4) (fun m k hk => match m, hk with
    | _ + 0, hk => (by cases hk)) kt_X10_isWithin_0d71f4
  rw [kl_X10_isWithin_0d71f4] at h
  exact h
def kq_X10_days_0df2a5 : sf_Q := ([(1, 10, 0), (0, 0, 0)], [], some (0, 0, 0), [(1, 0, 0, -400, 400, 0)], [(1, 2, 3), (2, 1, 1), (6, 7, 9), (15, 7, 9), (100, 0, 5), (101, 0, 5), (102, 0, 0), (109, 0, 11), (110, 0, 11), (111, 0, 11), (112, 0, 11), (113, 0, 7), (114, 0, 7), (115, 0, 63), (149, 0, 11), (151, 0, 11), (152, 0, 11), (153, 0, 7), (154, 0, 7), (155, 0, 63)])
def kc_X10_days_0df2a5 : List (Nat × sf_I) := [(0, 2, [1, 1]),
  (1, 0, [3, 60]),
  (3, 31, [6, 0, 2, 0, 0, 8, 138]),
  (6, 20, [9, 11, 1]),
  (9, 0, [10, -1]),
  (10, 35, [8, 138]),
  (11, 4, [12, 0]),
  (12, 23, [15, 10, 4]),
  (15, 23, [18, 6, 7]),
  (18, 0, [21, 400]),
  (21, 21, [24, 35, 5]),
  (24, 4, [25, 0]),
  (25, 23, [28, 10, 3]),
  (28, 4, [29, 0]),
  (29, 23, [32, 10, 4]),
  (32, 32, [35, 1, 2, 2, 8, 138, 8, 138]),
  (35, 4, [36, 0]),
  (36, 23, [39, 10, 2]),
  (39, 4, [40, 0]),
  (40, 23, [43, 10, 13]),
  (43, 4, [44, 0]),
  (44, 23, [47, 10, 4]),
  (47, 2, [48, 1]),
  (48, 32, [51, 2, 4, 1, 0, 0, 8, 138]),
  (51, 35, [8, 138])]
def kd_X10_days_0df2a5_0 : List (Nat × sf_D × sf_M) := [(0, ([(1, 10, 0), (0, 0, 0)], [], [], 0, 0), (22, [])),
  (1, ([(1, 10, 0), (0, 0, 0)], [(0, 0, 0)], [(1, 0, 0, -2147483648, 2147483647, 0), (1, 4, 0, -2147483648, 2147483647, 0), (2, 0, 4, 1, 0, 0)], 0, 0), (21, [])),
  (3, ([(1, 10, 0), (0, 0, 0)], [(0, 0, 0), (0, 0, 0)], [(1, 0, 0, -2147483648, 2147483647, 0), (1, 4, 0, -2147483648, 2147483647, 0), (1, 3, 0, 60, 60, 0), (2, 0, 4, 1, 0, 0)], 0, 0), (20, [])),
  (6, ([(1, 10, 0), (0, 0, 0)], [(0, 0, 0)], [(1, 4, 0, -2147483648, 2147483647, 0), (1, 0, 0, 0, 1, 0), (3, 0, 4, 1, 60, 0)], 0, 0), (19, [])),
  (9, ([(1, 10, 0), (0, 0, 0)], [], [(1, 4, 0, -2147483648, 2147483647, 0)], 0, 0), (1, [])),
  (10, ([(1, 10, 0), (0, 0, 0)], [(0, 0, 0)], [(1, 4, 0, -2147483648, 2147483647, 0), (1, 0, 0, -1, -1, 0)], 0, 0), (0, [])),
  (11, ([(1, 10, 0), (0, 0, 0)], [], [(1, 4, 0, 1, 60, 0)], 0, 0), (18, [])),
  (12, ([(1, 10, 0), (0, 0, 0)], [(1, 10, 0)], [(1, 4, 0, 1, 60, 0)], 0, 0), (17, [])),
  (15, ([(1, 10, 0), (0, 0, 0)], [(1, 6, 0)], [(1, 4, 0, 1, 60, 0)], 0, 0), (16, [])),
  (18, ([(1, 10, 0), (0, 0, 0)], [(0, 0, 400)], [(1, 4, 0, 1, 60, 0), (1, 0, 0, 0, 400, 0), (1, 21023, 0, -2147483648, 2147483647, 0), (2, 0, 21023, 1, 0, 0)], 0, 0), (15, [])),
  (21, ([(1, 10, 0), (0, 0, 0)], [(0, 0, 0), (0, 0, 400)], [(1, 4, 0, 1, 60, 0), (1, 0, 0, 0, 400, 0), (1, 21023, 0, -2147483648, 2147483647, 0), (1, 3, 0, 400, 400, 0), (2, 0, 21023, 1, 0, 0)], 0, 0), (14, [])),
  (24, ([(1, 10, 0), (0, 0, 0)], [], [(1, 4, 0, 1, 60, 0), (1, 21023, 0, 0, 399, 0)], 0, 0), (13, []))]
def kd_X10_days_0df2a5_1 : List (Nat × sf_D × sf_M) := [(25, ([(1, 10, 0), (0, 0, 0)], [(1, 10, 0)], [(1, 4, 0, 1, 60, 0), (1, 21023, 0, 0, 399, 0)], 0, 0), (12, [])),
  (28, ([(1, 10, 0), (0, 0, 0)], [(1, 2, 0)], [(1, 4, 0, 1, 60, 0), (1, 21023, 0, 0, 399, 0)], 0, 0), (11, [])),
  (29, ([(1, 10, 0), (0, 0, 0)], [(1, 10, 0), (1, 2, 0)], [(1, 4, 0, 1, 60, 0), (1, 21023, 0, 0, 399, 0)], 0, 0), (10, [])),
  (32, ([(1, 10, 0), (0, 0, 0)], [(1, 6, 0), (1, 2, 0)], [(1, 4, 0, 1, 60, 0), (1, 21023, 0, 0, 399, 0)], 0, 0), (9, [])),
  (35, ([(1, 10, 0), (0, 0, 0)], [], [(1, 4, 0, 1, 60, 0), (1, 21023, 0, 0, 400, 0)], 8, 138), (8, [])),
  (36, ([(1, 10, 0), (0, 0, 0)], [(1, 10, 0)], [(1, 4, 0, 1, 60, 0), (1, 21023, 0, 0, 400, 0)], 8, 138), (7, [])),
  (39, ([(1, 10, 0), (0, 0, 0)], [(1, 1, 0)], [(1, 4, 0, 1, 60, 0), (1, 21023, 0, 0, 400, 0)], 8, 138), (6, [])),
  (40, ([(1, 10, 0), (0, 0, 0)], [(1, 10, 0), (1, 1, 0)], [(1, 4, 0, 1, 60, 0), (1, 21023, 0, 0, 400, 0)], 8, 138), (5, [])),
  (43, ([(1, 10, 0), (0, 0, 0)], [(1, 7, 0), (1, 1, 0)], [(1, 4, 0, 1, 60, 0), (1, 21023, 0, 0, 400, 0)], 8, 138), (4, [])),
  (44, ([(1, 10, 0), (0, 0, 0)], [(1, 10, 0), (1, 7, 0), (1, 1, 0)], [(1, 4, 0, 1, 60, 0), (1, 21023, 0, 0, 400, 0)], 8, 138), (3, [])),
  (47, ([(1, 10, 0), (0, 0, 0)], [(1, 6, 0), (1, 7, 0), (1, 1, 0)], [(1, 4, 0, 1, 60, 0), (1, 21023, 0, 0, 400, 0)], 8, 138), (2, [])),
  (48, ([(1, 10, 0), (0, 0, 0)], [(0, 0, 0), (1, 6, 0), (1, 7, 0), (1, 1, 0)], [(1, 4, 0, 1, 60, 0), (1, 21023, 0, 0, 400, 0), (1, 9, 0, 1, 60, 0), (2, 9, 4, 1, 0, 0)], 8, 138), (1, []))]
def kd_X10_days_0df2a5_2 : List (Nat × sf_D × sf_M) := [(51, ([(1, 10, 0), (0, 0, 0)], [(0, 0, 0)], [(1, 4, 0, 1, 60, 0), (1, 0, 0, -400, 400, 0)], 8, 138), (0, []))]
def kd_X10_days_0df2a5 : List (Nat × sf_D × sf_M) := kd_X10_days_0df2a5_0 ++ (kd_X10_days_0df2a5_1 ++ (kd_X10_days_0df2a5_2))
set_option maxRecDepth 100000 in
theorem kt_X10_days_0df2a5 : sf_chk [kq_X10_isWithin_0d71f4, kq_X2_keep_h, kq_X1_passDays_6] kq_X10_days_0df2a5 2 kc_X10_days_0df2a5 kd_X10_days_0df2a5 = true := by decide +kernel
set_option maxRecDepth 100000 in
theorem kl_X10_days_0df2a5 : (kc_X10_days_0df2a5).map (fun c => (c.1, sf_den ([Z_X10_isWithin, Z_X2_keep, Z_X1_passDays] : List sf_X) c.2)) = L_X10_days Z_X10_isWithin Z_X2_keep Z_X1_passDays := rfl
theorem ct_X10_days_0df2a5 : sf_ct kq_X10_days_0df2a5 Z_X10_days := by
  have h := sf_meth (K := [kq_X10_isWithin_0d71f4, kq_X2_keep_h, kq_X1_passDays_6]) (E := [Z_X10_isWithin, Z_X2_keep, Z_X1_passDays]) (k := kq_X10_days_0df2a5) (nL := 2) (C := kc_X10_days_0df2a5) (D := kd_X10_days_0df2a5) (fun m k hk => match m, hk with
    | 0, hk => (Option.some.inj hk) ▸ ct_X10_isWithin_0d71f4
    | 1, hk => (Option.some.inj hk) ▸ ct_X2_keep_h
    | 2, hk => (Option.some.inj hk) ▸ ct_X1_passDays_6
    | _ + 3, hk => (by cases hk)) kt_X10_days_0df2a5
  rw [kl_X10_days_0df2a5] at h
  exact h
def kq_X1_amountMoved_4b090c : sf_Q := ([(0, 0, 0), (0, 0, 0), (0, 0, 0)], [(1, 0, 0, 0, 999, 0), (1, 3, 0, 0, 250, 0)], some (0, 0, 0), [(1, 0, 0, 0, 250, 0)], [])
def kc_X1_amountMoved_4b090c : List (Nat × sf_I) := [(0, 0, [1, 0]),
  (1, 2, [2, 0]),
  (2, 2, [3, 1]),
  (3, 2, [4, 2]),
  (4, 33, [7, 1, 0, 0]),
  (7, 33, [10, 1, 0, 0]),
  (10, 33, [13, 0, 0, 0]),
  (13, 35, [0, 0])]
def kd_X1_amountMoved_4b090c_0 : List (Nat × sf_D × sf_M) := [(0, ([(0, 0, 0), (0, 0, 0), (0, 0, 0)], [], [(1, 1, 0, 0, 999, 0), (1, 4, 0, 0, 250, 0)], 0, 0), (7, [])),
  (1, ([(0, 0, 0), (0, 0, 0), (0, 0, 0)], [(0, 0, 0)], [(1, 1, 0, 0, 999, 0), (1, 4, 0, 0, 250, 0), (1, 0, 0, 0, 0, 0)], 0, 0), (6, [])),
  (2, ([(0, 0, 0), (0, 0, 0), (0, 0, 0)], [(0, 0, 0), (0, 0, 0)], [(1, 1, 0, 0, 999, 0), (1, 4, 0, 0, 250, 0), (1, 0, 0, 0, 0, 0), (1, 3, 0, 0, 999, 0), (2, 3, 1, 1, 0, 0)], 0, 0), (5, [])),
  (3, ([(0, 0, 0), (0, 0, 0), (0, 0, 0)], [(0, 0, 0), (0, 0, 0), (0, 0, 0)], [(1, 1, 0, 0, 999, 0), (1, 4, 0, 0, 250, 0), (1, 0, 0, 0, 0, 0), (1, 3, 0, 0, 999, 0), (1, 6, 0, 0, 250, 0), (2, 3, 1, 1, 0, 0), (2, 6, 4, 1, 0, 0)], 0, 0), (4, [])),
  (4, ([(0, 0, 0), (0, 0, 0), (0, 0, 0)], [(0, 0, 0), (0, 0, 0), (0, 0, 0), (0, 0, 0)], [(1, 1, 0, 0, 999, 0), (1, 4, 0, 0, 250, 0), (1, 0, 0, 0, 0, 0), (1, 3, 0, 0, 999, 0), (1, 6, 0, 0, 250, 0), (1, 9, 0, -2147483648, 2147483647, 0), (1, 7, 0, -2147483648, 2147483647, 0), (2, 3, 1, 1, 0, 0), (2, 6, 4, 1, 0, 0), (2, 9, 7, 1, 0, 0)], 0, 0), (3, [])),
  (7, ([(0, 0, 0), (0, 0, 0), (0, 0, 0)], [(0, 0, 0), (0, 0, 0), (0, 0, 0)], [(1, 1, 0, 0, 999, 0), (1, 4, 0, 0, 250, 0), (1, 0, 0, 0, 0, 0), (1, 3, 0, 0, 999, 0), (1, 7, 0, -2147483648, 2147483647, 0), (1, 6, 0, -2147483648, 250, 0), (2, 3, 1, 1, 0, 0)], 0, 0), (2, []))]
def kd_X1_amountMoved_4b090c_1 : List (Nat × sf_D × sf_M) := [(10, ([(0, 0, 0), (0, 0, 0), (0, 0, 0)], [(0, 0, 0), (0, 0, 0)], [(1, 1, 0, 0, 999, 0), (1, 4, 0, 0, 250, 0), (1, 0, 0, 0, 0, 0), (1, 7, 0, -2147483648, 2147483647, 0), (1, 3, 0, -2147483648, 250, 0)], 0, 0), (1, [])),
  (13, ([(0, 0, 0), (0, 0, 0), (0, 0, 0)], [(0, 0, 0)], [(1, 1, 0, 0, 999, 0), (1, 4, 0, 0, 250, 0), (1, 7, 0, -2147483648, 2147483647, 0), (1, 0, 0, 0, 250, 0)], 0, 0), (0, []))]
def kd_X1_amountMoved_4b090c : List (Nat × sf_D × sf_M) := kd_X1_amountMoved_4b090c_0 ++ (kd_X1_amountMoved_4b090c_1)
set_option maxRecDepth 100000 in
theorem kt_X1_amountMoved_4b090c : sf_chk [] kq_X1_amountMoved_4b090c 3 kc_X1_amountMoved_4b090c kd_X1_amountMoved_4b090c = true := by decide +kernel
set_option maxRecDepth 100000 in
theorem kl_X1_amountMoved_4b090c : (kc_X1_amountMoved_4b090c).map (fun c => (c.1, sf_den ([] : List sf_X) c.2)) = L_X1_amountMoved := rfl
theorem ct_X1_amountMoved_4b090c : sf_ct kq_X1_amountMoved_4b090c Z_X1_amountMoved := by
  have h := sf_meth (K := []) (E := []) (k := kq_X1_amountMoved_4b090c) (nL := 3) (C := kc_X1_amountMoved_4b090c) (D := kd_X1_amountMoved_4b090c) (fun m k hk => match m, hk with
    | _ + 0, hk => (by cases hk)) kt_X1_amountMoved_4b090c
  rw [kl_X1_amountMoved_4b090c] at h
  exact h
def kq_X1_plan_223c75 : sf_Q := ([(1, 1, 0), (1, 7, 0), (1, 6, 0)], [], none, [], [(1, 2, 3), (100, 0, 5), (101, 0, 5)])
def kc_X1_plan_223c75 : List (Nat × sf_I) := [(0, 4, [1, 2]),
  (1, 32, [4, 0, 1, 6, 0, 0, 0, 0]),
  (4, 5, [5, 3]),
  (5, 4, [6, 2]),
  (6, 23, [9, 6, 7]),
  (9, 0, [12, 400]),
  (12, 21, [15, 22, 5]),
  (15, 4, [16, 1]),
  (16, 23, [19, 7, 7]),
  (19, 22, [23]),
  (22, 0, [23, 0]),
  (23, 5, [25, 4]),
  (25, 4, [26, 0]),
  (26, 0, [27, 0]),
  (27, 24, [30, 1, 3, 0]),
  (30, 4, [31, 0]),
  (31, 0, [32, 0]),
  (32, 24, [35, 1, 2, 0]),
  (35, 4, [36, 2]),
  (36, 4, [37, 1]),
  (37, 32, [40, 1, 2, 6, 0, 0, 0, 0]),
  (40, 5, [42, 5]),
  (42, 0, [43, 0]),
  (43, 5, [45, 6]),
  (45, 2, [47, 6]),
  (47, 4, [48, 1]),
  (48, 23, [51, 7, 9]),
  (51, 21, [54, 115, 5]),
  (54, 2, [56, 4]),
  (56, 4, [57, 0]),
  (57, 23, [60, 1, 3]),
  (60, 9, [61, 1]),
  (61, 0, [62, 2]),
  (62, 21, [65, 115, 2]),
  (65, 4, [66, 2]),
  (66, 23, [69, 6, 4]),
  (69, 2, [71, 6]),
  (71, 25, [72, 1]),
  (72, 2, [73, 3]),
  (73, 21, [76, 109, 1]),
  (76, 2, [78, 5]),
  (78, 0, [79, 1]),
  (79, 2, [81, 6]),
  (81, 9, [82, 6]),
  (82, 9, [83, 3]),
  (83, 20, [86, 109, 0]),
  (86, 4, [87, 0]),
  (87, 17, [88]),
  (88, 23, [91, 1, 2]),
  (91, 0, [92, 1]),
  (92, 2, [94, 6]),
  (94, 9, [95, 6]),
  (95, 9, [96, 4]),
  (96, 24, [99, 1, 2, 0]),
  (99, 4, [100, 0]),
  (100, 17, [101]),
  (101, 23, [104, 1, 3]),
  (104, 0, [105, 2]),
  (105, 9, [106, 0]),
  (106, 24, [109, 1, 3, 0]),
  (109, 8, [112, 6, 1]),
  (112, 22, [45]),
  (115, 0, [116, 0]),
  (116, 5, [118, 6]),
  (118, 2, [120, 6]),
  (120, 4, [121, 1]),
  (121, 23, [124, 7, 8]),
  (124, 21, [127, 208, 5]),
  (127, 4, [128, 2]),
  (128, 4, [129, 1]),
  (129, 2, [131, 6]),
  (131, 0, [132, 1]),
  (132, 2, [133, 3]),
  (133, 9, [134, 1]),
  (134, 31, [137, 2, 2, 0, 0, 0, 0]),
  (137, 32, [140, 3, 3, 6, 0, 0, 0, 0]),
  (140, 5, [142, 7]),
  (142, 4, [143, 0]),
  (143, 23, [146, 1, 1]),
  (146, 2, [148, 6]),
  (148, 2, [150, 4]),
  (150, 4, [151, 0]),
  (151, 23, [154, 1, 3]),
  (154, 9, [155, 1]),
  (155, 28, [156, 1]),
  (156, 4, [157, 0]),
  (157, 23, [160, 1, 0]),
  (160, 2, [162, 6]),
  (162, 4, [163, 2]),
  (163, 23, [166, 6, 0]),
  (166, 2, [168, 6]),
  (168, 2, [169, 3]),
  (169, 31, [172, 2, 2, 0, 0, 0, 0]),
  (172, 25, [173, 1]),
  (173, 2, [175, 7]),
  (175, 4, [176, 0]),
  (176, 23, [179, 1, 1]),
  (179, 2, [181, 6]),
  (181, 25, [182, 1]),
  (182, 31, [185, 4, 3, 0, 0, 0, 0]),
  (185, 28, [186, 1]),
  (186, 4, [187, 0]),
  (187, 17, [188]),
  (188, 23, [191, 1, 3]),
  (191, 4, [192, 0]),
  (192, 23, [195, 1, 0]),
  (195, 2, [197, 6]),
  (197, 25, [198, 1]),
  (198, 9, [199, 0]),
  (199, 24, [202, 1, 3, 0]),
  (202, 8, [205, 6, 1]),
  (205, 22, [118]),
  (208, 37, [0, 0])]
def kd_X1_plan_223c75_0 : List (Nat × sf_D × sf_M) := [(0, ([(1, 1, 0), (1, 7, 0), (1, 6, 0), (8, 0, 0), (8, 0, 0), (8, 0, 0), (8, 0, 0), (8, 0, 0)], [], [], 0, 0), (701, [])),
  (1, ([(1, 1, 0), (1, 7, 0), (1, 6, 0), (8, 0, 0), (8, 0, 0), (8, 0, 0), (8, 0, 0), (8, 0, 0)], [(1, 6, 0)], [], 0, 0), (700, [])),
  (4, ([(1, 1, 0), (1, 7, 0), (1, 6, 0), (8, 0, 0), (8, 0, 0), (8, 0, 0), (8, 0, 0), (8, 0, 0)], [(0, 0, 0)], [(1, 0, 0, 0, 1, 0)], 0, 0), (699, [])),
  (5, ([(1, 1, 0), (1, 7, 0), (1, 6, 0), (0, 0, 0), (8, 0, 0), (8, 0, 0), (8, 0, 0), (8, 0, 0)], [], [(1, 10, 0, 0, 1, 0)], 0, 0), (698, [])),
  (6, ([(1, 1, 0), (1, 7, 0), (1, 6, 0), (0, 0, 0), (8, 0, 0), (8, 0, 0), (8, 0, 0), (8, 0, 0)], [(1, 6, 0)], [(1, 10, 0, 0, 1, 0)], 0, 0), (697, [])),
  (9, ([(1, 1, 0), (1, 7, 0), (1, 6, 0), (0, 0, 0), (8, 0, 0), (8, 0, 0), (8, 0, 0), (8, 0, 0)], [(0, 0, 400)], [(1, 10, 0, 0, 1, 0), (1, 0, 0, 0, 400, 0), (1, 21023, 0, -2147483648, 2147483647, 0), (2, 0, 21023, 1, 0, 0)], 0, 0), (696, [])),
  (12, ([(1, 1, 0), (1, 7, 0), (1, 6, 0), (0, 0, 0), (8, 0, 0), (8, 0, 0), (8, 0, 0), (8, 0, 0)], [(0, 0, 0), (0, 0, 400)], [(1, 10, 0, 0, 1, 0), (1, 0, 0, 0, 400, 0), (1, 21023, 0, -2147483648, 2147483647, 0), (1, 3, 0, 400, 400, 0), (2, 0, 21023, 1, 0, 0)], 0, 0), (695, [])),
  (15, ([(1, 1, 0), (1, 7, 0), (1, 6, 0), (0, 0, 0), (8, 0, 0), (8, 0, 0), (8, 0, 0), (8, 0, 0)], [], [(1, 10, 0, 0, 1, 0), (1, 21023, 0, 0, 399, 0)], 0, 0), (694, []))]
def kd_X1_plan_223c75_1 : List (Nat × sf_D × sf_M) := [(16, ([(1, 1, 0), (1, 7, 0), (1, 6, 0), (0, 0, 0), (8, 0, 0), (8, 0, 0), (8, 0, 0), (8, 0, 0)], [(1, 7, 0)], [(1, 10, 0, 0, 1, 0), (1, 21023, 0, 0, 399, 0)], 0, 0), (693, [])),
  (19, ([(1, 1, 0), (1, 7, 0), (1, 6, 0), (0, 0, 0), (8, 0, 0), (8, 0, 0), (8, 0, 0), (8, 0, 0)], [(0, 0, 2147483647)], [(1, 10, 0, 0, 1, 0), (1, 21023, 0, 0, 399, 0), (1, 0, 0, -2147483648, 2147483647, 0)], 0, 0), (692, [])),
  (22, ([(1, 1, 0), (1, 7, 0), (1, 6, 0), (0, 0, 0), (8, 0, 0), (8, 0, 0), (8, 0, 0), (8, 0, 0)], [], [(1, 10, 0, 0, 1, 0), (1, 21023, 0, 400, 400, 0)], 0, 0), (692, [])),
  (23, ([(1, 1, 0), (1, 7, 0), (1, 6, 0), (0, 0, 0), (8, 0, 0), (8, 0, 0), (8, 0, 0), (8, 0, 0)], [(0, 0, 0)], [(1, 10, 0, 0, 1, 0), (1, 21023, 0, 0, 400, 0), (1, 0, 0, -2147483648, 2147483647, 0)], 0, 0), (691, [])),
  (25, ([(1, 1, 0), (1, 7, 0), (1, 6, 0), (0, 0, 0), (0, 0, 0), (8, 0, 0), (8, 0, 0), (8, 0, 0)], [], [(1, 10, 0, 0, 1, 0), (1, 21023, 0, 0, 400, 0), (1, 13, 0, -2147483648, 2147483647, 0)], 0, 0), (690, [])),
  (26, ([(1, 1, 0), (1, 7, 0), (1, 6, 0), (0, 0, 0), (0, 0, 0), (8, 0, 0), (8, 0, 0), (8, 0, 0)], [(1, 1, 0)], [(1, 10, 0, 0, 1, 0), (1, 21023, 0, 0, 400, 0), (1, 13, 0, -2147483648, 2147483647, 0)], 0, 0), (689, []))]
def kd_X1_plan_223c75_2 : List (Nat × sf_D × sf_M) := [(27, ([(1, 1, 0), (1, 7, 0), (1, 6, 0), (0, 0, 0), (0, 0, 0), (8, 0, 0), (8, 0, 0), (8, 0, 0)], [(0, 0, 0), (1, 1, 0)], [(1, 10, 0, 0, 1, 0), (1, 21023, 0, 0, 400, 0), (1, 13, 0, -2147483648, 2147483647, 0), (1, 3, 0, 0, 0, 0)], 0, 0), (688, [])),
  (30, ([(1, 1, 0), (1, 7, 0), (1, 6, 0), (0, 0, 0), (0, 0, 0), (8, 0, 0), (8, 0, 0), (8, 0, 0)], [], [(1, 10, 0, 0, 1, 0), (1, 21023, 0, 0, 400, 0), (1, 13, 0, -2147483648, 2147483647, 0), (1, 6011, 0, 0, 0, 0)], 0, 0), (687, [])),
  (31, ([(1, 1, 0), (1, 7, 0), (1, 6, 0), (0, 0, 0), (0, 0, 0), (8, 0, 0), (8, 0, 0), (8, 0, 0)], [(1, 1, 0)], [(1, 10, 0, 0, 1, 0), (1, 21023, 0, 0, 400, 0), (1, 13, 0, -2147483648, 2147483647, 0), (1, 6011, 0, 0, 0, 0)], 0, 0), (686, [])),
  (32, ([(1, 1, 0), (1, 7, 0), (1, 6, 0), (0, 0, 0), (0, 0, 0), (8, 0, 0), (8, 0, 0), (8, 0, 0)], [(0, 0, 0), (1, 1, 0)], [(1, 10, 0, 0, 1, 0), (1, 21023, 0, 0, 400, 0), (1, 13, 0, -2147483648, 2147483647, 0), (1, 6011, 0, 0, 0, 0), (1, 3, 0, 0, 0, 0)], 0, 0), (685, [])),
  (35, ([(1, 1, 0), (1, 7, 0), (1, 6, 0), (0, 0, 0), (0, 0, 0), (8, 0, 0), (8, 0, 0), (8, 0, 0)], [], [(1, 10, 0, 0, 1, 0), (1, 21023, 0, 0, 400, 0), (1, 13, 0, -2147483648, 2147483647, 0), (1, 6011, 0, 0, 0, 0), (1, 6008, 0, 0, 0, 0)], 0, 0), (684, []))]
def kd_X1_plan_223c75_3 : List (Nat × sf_D × sf_M) := [(36, ([(1, 1, 0), (1, 7, 0), (1, 6, 0), (0, 0, 0), (0, 0, 0), (8, 0, 0), (8, 0, 0), (8, 0, 0)], [(1, 6, 0)], [(1, 10, 0, 0, 1, 0), (1, 21023, 0, 0, 400, 0), (1, 13, 0, -2147483648, 2147483647, 0), (1, 6011, 0, 0, 0, 0), (1, 6008, 0, 0, 0, 0)], 0, 0), (683, [])),
  (37, ([(1, 1, 0), (1, 7, 0), (1, 6, 0), (0, 0, 0), (0, 0, 0), (8, 0, 0), (8, 0, 0), (8, 0, 0)], [(1, 7, 0), (1, 6, 0)], [(1, 10, 0, 0, 1, 0), (1, 21023, 0, 0, 400, 0), (1, 13, 0, -2147483648, 2147483647, 0), (1, 6011, 0, 0, 0, 0), (1, 6008, 0, 0, 0, 0)], 0, 0), (682, [])),
  (40, ([(1, 1, 0), (1, 7, 0), (1, 6, 0), (0, 0, 0), (0, 0, 0), (8, 0, 0), (8, 0, 0), (8, 0, 0)], [(0, 0, 0)], [(1, 10, 0, 0, 1, 0), (1, 21023, 0, 0, 400, 0), (1, 13, 0, -2147483648, 2147483647, 0), (1, 6011, 0, 0, 0, 0), (1, 6008, 0, 0, 0, 0), (1, 0, 0, -2147483648, 2147483647, 0)], 0, 0), (681, [])),
  (42, ([(1, 1, 0), (1, 7, 0), (1, 6, 0), (0, 0, 0), (0, 0, 0), (0, 0, 0), (8, 0, 0), (8, 0, 0)], [], [(1, 10, 0, 0, 1, 0), (1, 21023, 0, 0, 400, 0), (1, 13, 0, -2147483648, 2147483647, 0), (1, 6011, 0, 0, 0, 0), (1, 6008, 0, 0, 0, 0), (1, 16, 0, -2147483648, 2147483647, 0)], 0, 0), (680, []))]
def kd_X1_plan_223c75_4 : List (Nat × sf_D × sf_M) := [(43, ([(1, 1, 0), (1, 7, 0), (1, 6, 0), (0, 0, 0), (0, 0, 0), (0, 0, 0), (8, 0, 0), (8, 0, 0)], [(0, 0, 0)], [(1, 10, 0, 0, 1, 0), (1, 21023, 0, 0, 400, 0), (1, 13, 0, -2147483648, 2147483647, 0), (1, 6011, 0, 0, 0, 0), (1, 6008, 0, 0, 0, 0), (1, 16, 0, -2147483648, 2147483647, 0), (1, 0, 0, 0, 0, 0)], 0, 0), (679, [])),
  (45, ([(1, 1, 0), (1, 7, 0), (1, 6, 0), (0, 0, 0), (0, 0, 0), (0, 0, 0), (0, 0, 0), (8, 0, 0)], [], [(1, 10, 0, 0, 1, 0), (1, 21023, 0, 0, 400, 0), (1, 13, 0, -2147483648, 2147483647, 0), (1, 6011, 0, -2147483648, 2147483647, 0), (1, 6008, 0, -2147483648, 2147483647, 0), (1, 16, 0, -2147483648, 2147483647, 0), (1, 19, 0, 0, 8, 0)], 0, 0), (358, [(40, 19, 8, 0)])),
  (47, ([(1, 1, 0), (1, 7, 0), (1, 6, 0), (0, 0, 0), (0, 0, 0), (0, 0, 0), (0, 0, 0), (8, 0, 0)], [(0, 0, 0)], [(1, 10, 0, 0, 1, 0), (1, 21023, 0, 0, 400, 0), (1, 13, 0, -2147483648, 2147483647, 0), (1, 6011, 0, -2147483648, 2147483647, 0), (1, 6008, 0, -2147483648, 2147483647, 0), (1, 16, 0, -2147483648, 2147483647, 0), (1, 19, 0, 0, 8, 0), (1, 0, 0, 0, 8, 0), (2, 0, 19, 1, 0, 0)], 0, 0), (357, [(40, 19, 8, 0)]))]
def kd_X1_plan_223c75_5 : List (Nat × sf_D × sf_M) := [(48, ([(1, 1, 0), (1, 7, 0), (1, 6, 0), (0, 0, 0), (0, 0, 0), (0, 0, 0), (0, 0, 0), (8, 0, 0)], [(1, 7, 0), (0, 0, 0)], [(1, 10, 0, 0, 1, 0), (1, 21023, 0, 0, 400, 0), (1, 13, 0, -2147483648, 2147483647, 0), (1, 6011, 0, -2147483648, 2147483647, 0), (1, 6008, 0, -2147483648, 2147483647, 0), (1, 16, 0, -2147483648, 2147483647, 0), (1, 19, 0, 0, 8, 0), (1, 0, 0, 0, 8, 0), (2, 0, 19, 1, 0, 0)], 0, 0), (356, [(40, 19, 8, 0)])),
  (51, ([(1, 1, 0), (1, 7, 0), (1, 6, 0), (0, 0, 0), (0, 0, 0), (0, 0, 0), (0, 0, 0), (8, 0, 0)], [(0, 0, 8), (0, 0, 0)], [(1, 10, 0, 0, 1, 0), (1, 21023, 0, 0, 400, 0), (1, 13, 0, -2147483648, 2147483647, 0), (1, 6011, 0, -2147483648, 2147483647, 0), (1, 6008, 0, -2147483648, 2147483647, 0), (1, 16, 0, -2147483648, 2147483647, 0), (1, 19, 0, 0, 8, 0), (1, 0, 0, 0, 8, 0), (1, 3, 0, 0, 8, 0), (2, 0, 19, 1, 0, 0)], 0, 0), (355, [(40, 19, 8, 0)])),
  (54, ([(1, 1, 0), (1, 7, 0), (1, 6, 0), (0, 0, 0), (0, 0, 0), (0, 0, 0), (0, 0, 0), (8, 0, 0)], [], [(1, 10, 0, 0, 1, 0), (1, 21023, 0, 0, 400, 0), (1, 13, 0, -2147483648, 2147483647, 0), (1, 6011, 0, -2147483648, 2147483647, 0), (1, 6008, 0, -2147483648, 2147483647, 0), (1, 16, 0, -2147483648, 2147483647, 0), (1, 19, 0, 0, 7, 0)], 0, 0), (354, [(40, 19, 8, 0)]))]
def kd_X1_plan_223c75_6 : List (Nat × sf_D × sf_M) := [(56, ([(1, 1, 0), (1, 7, 0), (1, 6, 0), (0, 0, 0), (0, 0, 0), (0, 0, 0), (0, 0, 0), (8, 0, 0)], [(0, 0, 0)], [(1, 10, 0, 0, 1, 0), (1, 21023, 0, 0, 400, 0), (1, 13, 0, -2147483648, 2147483647, 0), (1, 6011, 0, -2147483648, 2147483647, 0), (1, 6008, 0, -2147483648, 2147483647, 0), (1, 16, 0, -2147483648, 2147483647, 0), (1, 19, 0, 0, 7, 0), (1, 0, 0, -2147483648, 2147483647, 0), (2, 0, 13, 1, 0, 0)], 0, 0), (353, [(40, 19, 8, 0)])),
  (57, ([(1, 1, 0), (1, 7, 0), (1, 6, 0), (0, 0, 0), (0, 0, 0), (0, 0, 0), (0, 0, 0), (8, 0, 0)], [(1, 1, 0), (0, 0, 0)], [(1, 10, 0, 0, 1, 0), (1, 21023, 0, 0, 400, 0), (1, 13, 0, -2147483648, 2147483647, 0), (1, 6011, 0, -2147483648, 2147483647, 0), (1, 6008, 0, -2147483648, 2147483647, 0), (1, 16, 0, -2147483648, 2147483647, 0), (1, 19, 0, 0, 7, 0), (1, 0, 0, -2147483648, 2147483647, 0), (2, 0, 13, 1, 0, 0)], 0, 0), (352, [(40, 19, 8, 0)])),
  (60, ([(1, 1, 0), (1, 7, 0), (1, 6, 0), (0, 0, 0), (0, 0, 0), (0, 0, 0), (0, 0, 0), (8, 0, 0)], [(0, 0, 2147483647), (0, 0, 0)], [(1, 10, 0, 0, 1, 0), (1, 21023, 0, 0, 400, 0), (1, 13, 0, -2147483648, 2147483647, 0), (1, 6011, 0, -2147483648, 2147483647, 0), (1, 6008, 0, -2147483648, 2147483647, 0), (1, 16, 0, -2147483648, 2147483647, 0), (1, 19, 0, 0, 7, 0), (1, 0, 0, -2147483648, 2147483647, 0), (1, 3, 0, -2147483648, 2147483647, 0), (2, 0, 13, 1, 0, 0), (2, 3, 6011, 1, 0, 0)], 0, 0), (351, [(40, 19, 8, 0)]))]
def kd_X1_plan_223c75_7 : List (Nat × sf_D × sf_M) := [(61, ([(1, 1, 0), (1, 7, 0), (1, 6, 0), (0, 0, 0), (0, 0, 0), (0, 0, 0), (0, 0, 0), (8, 0, 0)], [(0, 0, 0)], [(1, 10, 0, 0, 1, 0), (1, 21023, 0, 0, 400, 0), (1, 13, 0, -2147483648, 2147483647, 0), (1, 6011, 0, -2147483648, 2147483647, 0), (1, 6008, 0, -2147483648, 2147483647, 0), (1, 16, 0, -2147483648, 2147483647, 0), (1, 19, 0, 0, 7, 0), (1, 0, 0, -2147483648, 2147483647, 0)], 0, 0), (350, [(40, 19, 8, 0)])),
  (62, ([(1, 1, 0), (1, 7, 0), (1, 6, 0), (0, 0, 0), (0, 0, 0), (0, 0, 0), (0, 0, 0), (8, 0, 0)], [(0, 0, 0), (0, 0, 0)], [(1, 10, 0, 0, 1, 0), (1, 21023, 0, 0, 400, 0), (1, 13, 0, -2147483648, 2147483647, 0), (1, 6011, 0, -2147483648, 2147483647, 0), (1, 6008, 0, -2147483648, 2147483647, 0), (1, 16, 0, -2147483648, 2147483647, 0), (1, 19, 0, 0, 7, 0), (1, 0, 0, -2147483648, 2147483647, 0), (1, 3, 0, 2, 2, 0)], 0, 0), (349, [(40, 19, 8, 0)])),
  (65, ([(1, 1, 0), (1, 7, 0), (1, 6, 0), (0, 0, 0), (0, 0, 0), (0, 0, 0), (0, 0, 0), (8, 0, 0)], [], [(1, 10, 0, 0, 1, 0), (1, 21023, 0, 0, 400, 0), (1, 13, 0, -2147483648, 2147483647, 0), (1, 6011, 0, -2147483648, 2147483647, 0), (1, 6008, 0, -2147483648, 2147483647, 0), (1, 16, 0, -2147483648, 2147483647, 0), (1, 19, 0, 0, 7, 0)], 0, 0), (346, [(40, 19, 8, 0)]))]
def kd_X1_plan_223c75_8 : List (Nat × sf_D × sf_M) := [(66, ([(1, 1, 0), (1, 7, 0), (1, 6, 0), (0, 0, 0), (0, 0, 0), (0, 0, 0), (0, 0, 0), (8, 0, 0)], [(1, 6, 0)], [(1, 10, 0, 0, 1, 0), (1, 21023, 0, 0, 400, 0), (1, 13, 0, -2147483648, 2147483647, 0), (1, 6011, 0, -2147483648, 2147483647, 0), (1, 6008, 0, -2147483648, 2147483647, 0), (1, 16, 0, -2147483648, 2147483647, 0), (1, 19, 0, 0, 7, 0)], 0, 0), (345, [(40, 19, 8, 0)])),
  (69, ([(1, 1, 0), (1, 7, 0), (1, 6, 0), (0, 0, 0), (0, 0, 0), (0, 0, 0), (0, 0, 0), (8, 0, 0)], [(1, 153, 0)], [(1, 10, 0, 0, 1, 0), (1, 21023, 0, 0, 400, 0), (1, 13, 0, -2147483648, 2147483647, 0), (1, 6011, 0, -2147483648, 2147483647, 0), (1, 6008, 0, -2147483648, 2147483647, 0), (1, 16, 0, -2147483648, 2147483647, 0), (1, 19, 0, 0, 7, 0)], 0, 0), (344, [(40, 19, 8, 0)])),
  (71, ([(1, 1, 0), (1, 7, 0), (1, 6, 0), (0, 0, 0), (0, 0, 0), (0, 0, 0), (0, 0, 0), (8, 0, 0)], [(0, 0, 0), (1, 153, 0)], [(1, 10, 0, 0, 1, 0), (1, 21023, 0, 0, 400, 0), (1, 13, 0, -2147483648, 2147483647, 0), (1, 6011, 0, -2147483648, 2147483647, 0), (1, 6008, 0, -2147483648, 2147483647, 0), (1, 16, 0, -2147483648, 2147483647, 0), (1, 19, 0, 0, 7, 0), (1, 3, 0, 0, 7, 0), (2, 3, 19, 1, 0, 0)], 0, 0), (343, [(40, 19, 8, 0)]))]
def kd_X1_plan_223c75_9 : List (Nat × sf_D × sf_M) := [(72, ([(1, 1, 0), (1, 7, 0), (1, 6, 0), (0, 0, 0), (0, 0, 0), (0, 0, 0), (0, 0, 0), (8, 0, 0)], [(0, 0, 0)], [(1, 10, 0, 0, 1, 0), (1, 21023, 0, 0, 400, 0), (1, 13, 0, -2147483648, 2147483647, 0), (1, 6011, 0, -2147483648, 2147483647, 0), (1, 6008, 0, -2147483648, 2147483647, 0), (1, 16, 0, -2147483648, 2147483647, 0), (1, 19, 0, 0, 7, 0), (1, 0, 0, -2147483648, 2147483647, 0)], 0, 0), (342, [(40, 19, 8, 0)])),
  (73, ([(1, 1, 0), (1, 7, 0), (1, 6, 0), (0, 0, 0), (0, 0, 0), (0, 0, 0), (0, 0, 0), (8, 0, 0)], [(0, 0, 0), (0, 0, 0)], [(1, 10, 0, 0, 1, 0), (1, 21023, 0, 0, 400, 0), (1, 13, 0, -2147483648, 2147483647, 0), (1, 6011, 0, -2147483648, 2147483647, 0), (1, 6008, 0, -2147483648, 2147483647, 0), (1, 16, 0, -2147483648, 2147483647, 0), (1, 19, 0, 0, 7, 0), (1, 0, 0, -2147483648, 2147483647, 0), (1, 3, 0, 0, 1, 0), (2, 3, 10, 1, 0, 0)], 0, 0), (341, [(40, 19, 8, 0)])),
  (76, ([(1, 1, 0), (1, 7, 0), (1, 6, 0), (0, 0, 0), (0, 0, 0), (0, 0, 0), (0, 0, 0), (8, 0, 0)], [], [(1, 10, 0, 0, 1, 0), (1, 21023, 0, 0, 400, 0), (1, 13, 0, -2147483648, 2147483647, 0), (1, 6011, 0, -2147483648, 2147483647, 0), (1, 6008, 0, -2147483648, 2147483647, 0), (1, 16, 0, -2147483648, 2147483647, 0), (1, 19, 0, 0, 7, 0)], 0, 0), (340, [(40, 19, 8, 0)]))]
def kd_X1_plan_223c75_10 : List (Nat × sf_D × sf_M) := [(78, ([(1, 1, 0), (1, 7, 0), (1, 6, 0), (0, 0, 0), (0, 0, 0), (0, 0, 0), (0, 0, 0), (8, 0, 0)], [(0, 0, 0)], [(1, 10, 0, 0, 1, 0), (1, 21023, 0, 0, 400, 0), (1, 13, 0, -2147483648, 2147483647, 0), (1, 6011, 0, -2147483648, 2147483647, 0), (1, 6008, 0, -2147483648, 2147483647, 0), (1, 16, 0, -2147483648, 2147483647, 0), (1, 19, 0, 0, 7, 0), (1, 0, 0, -2147483648, 2147483647, 0), (2, 0, 16, 1, 0, 0)], 0, 0), (339, [(40, 19, 8, 0)])),
  (79, ([(1, 1, 0), (1, 7, 0), (1, 6, 0), (0, 0, 0), (0, 0, 0), (0, 0, 0), (0, 0, 0), (8, 0, 0)], [(0, 0, 0), (0, 0, 0)], [(1, 10, 0, 0, 1, 0), (1, 21023, 0, 0, 400, 0), (1, 13, 0, -2147483648, 2147483647, 0), (1, 6011, 0, -2147483648, 2147483647, 0), (1, 6008, 0, -2147483648, 2147483647, 0), (1, 16, 0, -2147483648, 2147483647, 0), (1, 19, 0, 0, 7, 0), (1, 0, 0, -2147483648, 2147483647, 0), (1, 3, 0, 1, 1, 0), (2, 0, 16, 1, 0, 0)], 0, 0), (338, [(40, 19, 8, 0)])),
  (81, ([(1, 1, 0), (1, 7, 0), (1, 6, 0), (0, 0, 0), (0, 0, 0), (0, 0, 0), (0, 0, 0), (8, 0, 0)], [(0, 0, 0), (0, 0, 0), (0, 0, 0)], [(1, 10, 0, 0, 1, 0), (1, 21023, 0, 0, 400, 0), (1, 13, 0, -2147483648, 2147483647, 0), (1, 6011, 0, -2147483648, 2147483647, 0), (1, 6008, 0, -2147483648, 2147483647, 0), (1, 16, 0, -2147483648, 2147483647, 0), (1, 19, 0, 0, 7, 0), (1, 0, 0, -2147483648, 2147483647, 0), (1, 3, 0, 1, 1, 0), (1, 6, 0, 0, 7, 0), (2, 0, 16, 1, 0, 0), (2, 6, 19, 1, 0, 0)], 0, 0), (337, [(40, 19, 8, 0)]))]
def kd_X1_plan_223c75_11 : List (Nat × sf_D × sf_M) := [(82, ([(1, 1, 0), (1, 7, 0), (1, 6, 0), (0, 0, 0), (0, 0, 0), (0, 0, 0), (0, 0, 0), (8, 0, 0)], [(0, 0, 0), (0, 0, 0)], [(1, 10, 0, 0, 1, 0), (1, 21023, 0, 0, 400, 0), (1, 13, 0, -2147483648, 2147483647, 0), (1, 6011, 0, -2147483648, 2147483647, 0), (1, 6008, 0, -2147483648, 2147483647, 0), (1, 16, 0, -2147483648, 2147483647, 0), (1, 19, 0, 0, 7, 0), (1, 0, 0, -2147483648, 2147483647, 0), (1, 3, 0, -2147483648, 2147483647, 0), (2, 0, 16, 1, 0, 0)], 0, 0), (336, [(40, 19, 8, 0)])),
  (83, ([(1, 1, 0), (1, 7, 0), (1, 6, 0), (0, 0, 0), (0, 0, 0), (0, 0, 0), (0, 0, 0), (8, 0, 0)], [(0, 0, 0)], [(1, 10, 0, 0, 1, 0), (1, 21023, 0, 0, 400, 0), (1, 13, 0, -2147483648, 2147483647, 0), (1, 6011, 0, -2147483648, 2147483647, 0), (1, 6008, 0, -2147483648, 2147483647, 0), (1, 16, 0, -2147483648, 2147483647, 0), (1, 19, 0, 0, 7, 0), (1, 0, 0, -2147483648, 2147483647, 0)], 0, 0), (335, [(40, 19, 8, 0)])),
  (86, ([(1, 1, 0), (1, 7, 0), (1, 6, 0), (0, 0, 0), (0, 0, 0), (0, 0, 0), (0, 0, 0), (8, 0, 0)], [], [(1, 10, 0, 0, 1, 0), (1, 21023, 0, 0, 400, 0), (1, 13, 0, -2147483648, 2147483647, 0), (1, 6011, 0, -2147483648, 2147483647, 0), (1, 6008, 0, -2147483648, 2147483647, 0), (1, 16, 0, -2147483648, 2147483647, 0), (1, 19, 0, 0, 7, 0)], 0, 0), (334, [(40, 19, 8, 0)]))]
def kd_X1_plan_223c75_12 : List (Nat × sf_D × sf_M) := [(87, ([(1, 1, 0), (1, 7, 0), (1, 6, 0), (0, 0, 0), (0, 0, 0), (0, 0, 0), (0, 0, 0), (8, 0, 0)], [(1, 1, 0)], [(1, 10, 0, 0, 1, 0), (1, 21023, 0, 0, 400, 0), (1, 13, 0, -2147483648, 2147483647, 0), (1, 6011, 0, -2147483648, 2147483647, 0), (1, 6008, 0, -2147483648, 2147483647, 0), (1, 16, 0, -2147483648, 2147483647, 0), (1, 19, 0, 0, 7, 0)], 0, 0), (333, [(40, 19, 8, 0)])),
  (88, ([(1, 1, 0), (1, 7, 0), (1, 6, 0), (0, 0, 0), (0, 0, 0), (0, 0, 0), (0, 0, 0), (8, 0, 0)], [(1, 1, 0), (1, 1, 0)], [(1, 10, 0, 0, 1, 0), (1, 21023, 0, 0, 400, 0), (1, 13, 0, -2147483648, 2147483647, 0), (1, 6011, 0, -2147483648, 2147483647, 0), (1, 6008, 0, -2147483648, 2147483647, 0), (1, 16, 0, -2147483648, 2147483647, 0), (1, 19, 0, 0, 7, 0)], 0, 0), (332, [(40, 19, 8, 0)])),
  (91, ([(1, 1, 0), (1, 7, 0), (1, 6, 0), (0, 0, 0), (0, 0, 0), (0, 0, 0), (0, 0, 0), (8, 0, 0)], [(0, 0, 2147483647), (1, 1, 0)], [(1, 10, 0, 0, 1, 0), (1, 21023, 0, 0, 400, 0), (1, 13, 0, -2147483648, 2147483647, 0), (1, 6011, 0, -2147483648, 2147483647, 0), (1, 6008, 0, -2147483648, 2147483647, 0), (1, 16, 0, -2147483648, 2147483647, 0), (1, 19, 0, 0, 7, 0), (1, 3, 0, -2147483648, 2147483647, 0), (2, 3, 6008, 1, 0, 0)], 0, 0), (331, [(40, 19, 8, 0)]))]
def kd_X1_plan_223c75_13 : List (Nat × sf_D × sf_M) := [(92, ([(1, 1, 0), (1, 7, 0), (1, 6, 0), (0, 0, 0), (0, 0, 0), (0, 0, 0), (0, 0, 0), (8, 0, 0)], [(0, 0, 0), (0, 0, 2147483647), (1, 1, 0)], [(1, 10, 0, 0, 1, 0), (1, 21023, 0, 0, 400, 0), (1, 13, 0, -2147483648, 2147483647, 0), (1, 6011, 0, -2147483648, 2147483647, 0), (1, 6008, 0, -2147483648, 2147483647, 0), (1, 16, 0, -2147483648, 2147483647, 0), (1, 19, 0, 0, 7, 0), (1, 3, 0, -2147483648, 2147483647, 0), (1, 6, 0, 1, 1, 0), (2, 3, 6008, 1, 0, 0)], 0, 0), (330, [(40, 19, 8, 0)])),
  (94, ([(1, 1, 0), (1, 7, 0), (1, 6, 0), (0, 0, 0), (0, 0, 0), (0, 0, 0), (0, 0, 0), (8, 0, 0)], [(0, 0, 0), (0, 0, 0), (0, 0, 2147483647), (1, 1, 0)], [(1, 10, 0, 0, 1, 0), (1, 21023, 0, 0, 400, 0), (1, 13, 0, -2147483648, 2147483647, 0), (1, 6011, 0, -2147483648, 2147483647, 0), (1, 6008, 0, -2147483648, 2147483647, 0), (1, 16, 0, -2147483648, 2147483647, 0), (1, 19, 0, 0, 7, 0), (1, 3, 0, -2147483648, 2147483647, 0), (1, 6, 0, 1, 1, 0), (1, 9, 0, 0, 7, 0), (2, 3, 6008, 1, 0, 0), (2, 9, 19, 1, 0, 0)], 0, 0), (329, [(40, 19, 8, 0)]))]
def kd_X1_plan_223c75_14 : List (Nat × sf_D × sf_M) := [(95, ([(1, 1, 0), (1, 7, 0), (1, 6, 0), (0, 0, 0), (0, 0, 0), (0, 0, 0), (0, 0, 0), (8, 0, 0)], [(0, 0, 0), (0, 0, 2147483647), (1, 1, 0)], [(1, 10, 0, 0, 1, 0), (1, 21023, 0, 0, 400, 0), (1, 13, 0, -2147483648, 2147483647, 0), (1, 6011, 0, -2147483648, 2147483647, 0), (1, 6008, 0, -2147483648, 2147483647, 0), (1, 16, 0, -2147483648, 2147483647, 0), (1, 19, 0, 0, 7, 0), (1, 3, 0, -2147483648, 2147483647, 0), (1, 6, 0, -2147483648, 2147483647, 0), (2, 3, 6008, 1, 0, 0)], 0, 0), (328, [(40, 19, 8, 0)])),
  (96, ([(1, 1, 0), (1, 7, 0), (1, 6, 0), (0, 0, 0), (0, 0, 0), (0, 0, 0), (0, 0, 0), (8, 0, 0)], [(0, 0, 0), (1, 1, 0)], [(1, 10, 0, 0, 1, 0), (1, 21023, 0, 0, 400, 0), (1, 13, 0, -2147483648, 2147483647, 0), (1, 6011, 0, -2147483648, 2147483647, 0), (1, 6008, 0, -2147483648, 2147483647, 0), (1, 16, 0, -2147483648, 2147483647, 0), (1, 19, 0, 0, 7, 0), (1, 3, 0, -2147483648, 2147483647, 0)], 0, 0), (327, [(40, 19, 8, 0)])),
  (99, ([(1, 1, 0), (1, 7, 0), (1, 6, 0), (0, 0, 0), (0, 0, 0), (0, 0, 0), (0, 0, 0), (8, 0, 0)], [], [(1, 10, 0, 0, 1, 0), (1, 21023, 0, 0, 400, 0), (1, 13, 0, -2147483648, 2147483647, 0), (1, 6011, 0, -2147483648, 2147483647, 0), (1, 16, 0, -2147483648, 2147483647, 0), (1, 19, 0, 0, 7, 0), (1, 6008, 0, -2147483648, 2147483647, 0)], 0, 0), (326, [(40, 19, 8, 0)]))]
def kd_X1_plan_223c75_15 : List (Nat × sf_D × sf_M) := [(100, ([(1, 1, 0), (1, 7, 0), (1, 6, 0), (0, 0, 0), (0, 0, 0), (0, 0, 0), (0, 0, 0), (8, 0, 0)], [(1, 1, 0)], [(1, 10, 0, 0, 1, 0), (1, 21023, 0, 0, 400, 0), (1, 13, 0, -2147483648, 2147483647, 0), (1, 6011, 0, -2147483648, 2147483647, 0), (1, 16, 0, -2147483648, 2147483647, 0), (1, 19, 0, 0, 7, 0), (1, 6008, 0, -2147483648, 2147483647, 0)], 0, 0), (325, [(40, 19, 8, 0)])),
  (101, ([(1, 1, 0), (1, 7, 0), (1, 6, 0), (0, 0, 0), (0, 0, 0), (0, 0, 0), (0, 0, 0), (8, 0, 0)], [(1, 1, 0), (1, 1, 0)], [(1, 10, 0, 0, 1, 0), (1, 21023, 0, 0, 400, 0), (1, 13, 0, -2147483648, 2147483647, 0), (1, 6011, 0, -2147483648, 2147483647, 0), (1, 16, 0, -2147483648, 2147483647, 0), (1, 19, 0, 0, 7, 0), (1, 6008, 0, -2147483648, 2147483647, 0)], 0, 0), (324, [(40, 19, 8, 0)])),
  (104, ([(1, 1, 0), (1, 7, 0), (1, 6, 0), (0, 0, 0), (0, 0, 0), (0, 0, 0), (0, 0, 0), (8, 0, 0)], [(0, 0, 2147483647), (1, 1, 0)], [(1, 10, 0, 0, 1, 0), (1, 21023, 0, 0, 400, 0), (1, 13, 0, -2147483648, 2147483647, 0), (1, 6011, 0, -2147483648, 2147483647, 0), (1, 16, 0, -2147483648, 2147483647, 0), (1, 19, 0, 0, 7, 0), (1, 6008, 0, -2147483648, 2147483647, 0), (1, 3, 0, -2147483648, 2147483647, 0), (2, 3, 6011, 1, 0, 0)], 0, 0), (323, [(40, 19, 8, 0)]))]
def kd_X1_plan_223c75_16 : List (Nat × sf_D × sf_M) := [(105, ([(1, 1, 0), (1, 7, 0), (1, 6, 0), (0, 0, 0), (0, 0, 0), (0, 0, 0), (0, 0, 0), (8, 0, 0)], [(0, 0, 0), (0, 0, 2147483647), (1, 1, 0)], [(1, 10, 0, 0, 1, 0), (1, 21023, 0, 0, 400, 0), (1, 13, 0, -2147483648, 2147483647, 0), (1, 6011, 0, -2147483648, 2147483647, 0), (1, 16, 0, -2147483648, 2147483647, 0), (1, 19, 0, 0, 7, 0), (1, 6008, 0, -2147483648, 2147483647, 0), (1, 3, 0, -2147483648, 2147483647, 0), (1, 6, 0, 2, 2, 0), (2, 3, 6011, 1, 0, 0)], 0, 0), (322, [(40, 19, 8, 0)])),
  (106, ([(1, 1, 0), (1, 7, 0), (1, 6, 0), (0, 0, 0), (0, 0, 0), (0, 0, 0), (0, 0, 0), (8, 0, 0)], [(0, 0, 0), (1, 1, 0)], [(1, 10, 0, 0, 1, 0), (1, 21023, 0, 0, 400, 0), (1, 13, 0, -2147483648, 2147483647, 0), (1, 6011, 0, -2147483648, 2147483647, 0), (1, 16, 0, -2147483648, 2147483647, 0), (1, 19, 0, 0, 7, 0), (1, 6008, 0, -2147483648, 2147483647, 0), (1, 3, 0, -2147483648, 2147483647, 0)], 0, 0), (321, [(40, 19, 8, 0)])),
  (109, ([(1, 1, 0), (1, 7, 0), (1, 6, 0), (0, 0, 0), (0, 0, 0), (0, 0, 0), (0, 0, 0), (8, 0, 0)], [], [(1, 10, 0, 0, 1, 0), (1, 21023, 0, 0, 400, 0), (1, 13, 0, -2147483648, 2147483647, 0), (1, 6011, 0, -2147483648, 2147483647, 0), (1, 6008, 0, -2147483648, 2147483647, 0), (1, 16, 0, -2147483648, 2147483647, 0), (1, 19, 0, 0, 7, 0)], 0, 0), (320, [(40, 19, 8, 0)]))]
def kd_X1_plan_223c75_17 : List (Nat × sf_D × sf_M) := [(112, ([(1, 1, 0), (1, 7, 0), (1, 6, 0), (0, 0, 0), (0, 0, 0), (0, 0, 0), (0, 0, 0), (8, 0, 0)], [], [(1, 10, 0, 0, 1, 0), (1, 21023, 0, 0, 400, 0), (1, 13, 0, -2147483648, 2147483647, 0), (1, 6011, 0, -2147483648, 2147483647, 0), (1, 6008, 0, -2147483648, 2147483647, 0), (1, 16, 0, -2147483648, 2147483647, 0), (1, 19, 0, 1, 8, 0)], 0, 0), (359, [(40, 19, 8, 0)])),
  (115, ([(1, 1, 0), (1, 7, 0), (1, 6, 0), (0, 0, 0), (0, 0, 0), (0, 0, 0), (0, 0, 0), (8, 0, 0)], [], [(1, 10, 0, 0, 1, 0), (1, 21023, 0, 0, 400, 0), (1, 13, 0, -2147483648, 2147483647, 0), (1, 6011, 0, -2147483648, 2147483647, 0), (1, 6008, 0, -2147483648, 2147483647, 0), (1, 16, 0, -2147483648, 2147483647, 0), (1, 19, 0, 0, 8, 0)], 0, 0), (348, [])),
  (116, ([(1, 1, 0), (1, 7, 0), (1, 6, 0), (0, 0, 0), (0, 0, 0), (0, 0, 0), (0, 0, 0), (8, 0, 0)], [(0, 0, 0)], [(1, 10, 0, 0, 1, 0), (1, 21023, 0, 0, 400, 0), (1, 13, 0, -2147483648, 2147483647, 0), (1, 6011, 0, -2147483648, 2147483647, 0), (1, 6008, 0, -2147483648, 2147483647, 0), (1, 16, 0, -2147483648, 2147483647, 0), (1, 19, 0, 0, 8, 0), (1, 0, 0, 0, 0, 0)], 0, 0), (347, []))]
def kd_X1_plan_223c75_18 : List (Nat × sf_D × sf_M) := [(118, ([(1, 1, 0), (1, 7, 0), (1, 6, 0), (0, 0, 0), (0, 0, 0), (0, 0, 0), (0, 0, 0), (8, 0, 0)], [], [(1, 10, 0, 0, 1, 0), (1, 21023, 0, 0, 400, 0), (1, 13, 0, -2147483648, 2147483647, 0), (1, 6011, 0, -2147483648, 2147483647, 0), (1, 6008, 0, -2147483648, 2147483647, 0), (1, 16, 0, -2147483648, 2147483647, 0), (1, 19, 0, 0, 6, 0)], 0, 0), (46, [(50, 19, 6, 0)])),
  (120, ([(1, 1, 0), (1, 7, 0), (1, 6, 0), (0, 0, 0), (0, 0, 0), (0, 0, 0), (0, 0, 0), (8, 0, 0)], [(0, 0, 0)], [(1, 10, 0, 0, 1, 0), (1, 21023, 0, 0, 400, 0), (1, 13, 0, -2147483648, 2147483647, 0), (1, 6011, 0, -2147483648, 2147483647, 0), (1, 6008, 0, -2147483648, 2147483647, 0), (1, 16, 0, -2147483648, 2147483647, 0), (1, 19, 0, 0, 6, 0), (1, 0, 0, 0, 6, 0), (2, 0, 19, 1, 0, 0)], 0, 0), (45, [(50, 19, 6, 0)])),
  (121, ([(1, 1, 0), (1, 7, 0), (1, 6, 0), (0, 0, 0), (0, 0, 0), (0, 0, 0), (0, 0, 0), (8, 0, 0)], [(1, 7, 0), (0, 0, 0)], [(1, 10, 0, 0, 1, 0), (1, 21023, 0, 0, 400, 0), (1, 13, 0, -2147483648, 2147483647, 0), (1, 6011, 0, -2147483648, 2147483647, 0), (1, 6008, 0, -2147483648, 2147483647, 0), (1, 16, 0, -2147483648, 2147483647, 0), (1, 19, 0, 0, 6, 0), (1, 0, 0, 0, 6, 0), (2, 0, 19, 1, 0, 0)], 0, 0), (44, [(50, 19, 6, 0)]))]
def kd_X1_plan_223c75_19 : List (Nat × sf_D × sf_M) := [(124, ([(1, 1, 0), (1, 7, 0), (1, 6, 0), (0, 0, 0), (0, 0, 0), (0, 0, 0), (0, 0, 0), (8, 0, 0)], [(0, 0, 6), (0, 0, 0)], [(1, 10, 0, 0, 1, 0), (1, 21023, 0, 0, 400, 0), (1, 13, 0, -2147483648, 2147483647, 0), (1, 6011, 0, -2147483648, 2147483647, 0), (1, 6008, 0, -2147483648, 2147483647, 0), (1, 16, 0, -2147483648, 2147483647, 0), (1, 19, 0, 0, 6, 0), (1, 0, 0, 0, 6, 0), (1, 3, 0, 0, 6, 0), (2, 0, 19, 1, 0, 0)], 0, 0), (43, [(50, 19, 6, 0)])),
  (127, ([(1, 1, 0), (1, 7, 0), (1, 6, 0), (0, 0, 0), (0, 0, 0), (0, 0, 0), (0, 0, 0), (8, 0, 0)], [], [(1, 10, 0, 0, 1, 0), (1, 21023, 0, 0, 400, 0), (1, 13, 0, -2147483648, 2147483647, 0), (1, 6011, 0, -2147483648, 2147483647, 0), (1, 6008, 0, -2147483648, 2147483647, 0), (1, 16, 0, -2147483648, 2147483647, 0), (1, 19, 0, 0, 5, 0)], 0, 0), (42, [(50, 19, 6, 0)])),
  (128, ([(1, 1, 0), (1, 7, 0), (1, 6, 0), (0, 0, 0), (0, 0, 0), (0, 0, 0), (0, 0, 0), (8, 0, 0)], [(1, 6, 0)], [(1, 10, 0, 0, 1, 0), (1, 21023, 0, 0, 400, 0), (1, 13, 0, -2147483648, 2147483647, 0), (1, 6011, 0, -2147483648, 2147483647, 0), (1, 6008, 0, -2147483648, 2147483647, 0), (1, 16, 0, -2147483648, 2147483647, 0), (1, 19, 0, 0, 5, 0)], 0, 0), (41, [(50, 19, 6, 0)]))]
def kd_X1_plan_223c75_20 : List (Nat × sf_D × sf_M) := [(129, ([(1, 1, 0), (1, 7, 0), (1, 6, 0), (0, 0, 0), (0, 0, 0), (0, 0, 0), (0, 0, 0), (8, 0, 0)], [(1, 7, 0), (1, 6, 0)], [(1, 10, 0, 0, 1, 0), (1, 21023, 0, 0, 400, 0), (1, 13, 0, -2147483648, 2147483647, 0), (1, 6011, 0, -2147483648, 2147483647, 0), (1, 6008, 0, -2147483648, 2147483647, 0), (1, 16, 0, -2147483648, 2147483647, 0), (1, 19, 0, 0, 5, 0)], 0, 0), (40, [(50, 19, 6, 0)])),
  (131, ([(1, 1, 0), (1, 7, 0), (1, 6, 0), (0, 0, 0), (0, 0, 0), (0, 0, 0), (0, 0, 0), (8, 0, 0)], [(0, 0, 0), (1, 7, 0), (1, 6, 0)], [(1, 10, 0, 0, 1, 0), (1, 21023, 0, 0, 400, 0), (1, 13, 0, -2147483648, 2147483647, 0), (1, 6011, 0, -2147483648, 2147483647, 0), (1, 6008, 0, -2147483648, 2147483647, 0), (1, 16, 0, -2147483648, 2147483647, 0), (1, 19, 0, 0, 5, 0), (1, 6, 0, 0, 5, 0), (2, 6, 19, 1, 0, 0)], 0, 0), (39, [(50, 19, 6, 0)])),
  (132, ([(1, 1, 0), (1, 7, 0), (1, 6, 0), (0, 0, 0), (0, 0, 0), (0, 0, 0), (0, 0, 0), (8, 0, 0)], [(0, 0, 0), (0, 0, 0), (1, 7, 0), (1, 6, 0)], [(1, 10, 0, 0, 1, 0), (1, 21023, 0, 0, 400, 0), (1, 13, 0, -2147483648, 2147483647, 0), (1, 6011, 0, -2147483648, 2147483647, 0), (1, 6008, 0, -2147483648, 2147483647, 0), (1, 16, 0, -2147483648, 2147483647, 0), (1, 19, 0, 0, 5, 0), (1, 6, 0, 0, 5, 0), (1, 9, 0, 1, 1, 0), (2, 6, 19, 1, 0, 0)], 0, 0), (38, [(50, 19, 6, 0)]))]
def kd_X1_plan_223c75_21 : List (Nat × sf_D × sf_M) := [(133, ([(1, 1, 0), (1, 7, 0), (1, 6, 0), (0, 0, 0), (0, 0, 0), (0, 0, 0), (0, 0, 0), (8, 0, 0)], [(0, 0, 0), (0, 0, 0), (0, 0, 0), (1, 7, 0), (1, 6, 0)], [(1, 10, 0, 0, 1, 0), (1, 21023, 0, 0, 400, 0), (1, 13, 0, -2147483648, 2147483647, 0), (1, 6011, 0, -2147483648, 2147483647, 0), (1, 6008, 0, -2147483648, 2147483647, 0), (1, 16, 0, -2147483648, 2147483647, 0), (1, 19, 0, 0, 5, 0), (1, 6, 0, 0, 5, 0), (1, 9, 0, 1, 1, 0), (1, 12, 0, 0, 1, 0), (2, 6, 19, 1, 0, 0), (2, 12, 10, 1, 0, 0)], 0, 0), (37, [(50, 19, 6, 0)])),
  (134, ([(1, 1, 0), (1, 7, 0), (1, 6, 0), (0, 0, 0), (0, 0, 0), (0, 0, 0), (0, 0, 0), (8, 0, 0)], [(0, 0, 0), (0, 0, 0), (1, 7, 0), (1, 6, 0)], [(1, 10, 0, 0, 1, 0), (1, 21023, 0, 0, 400, 0), (1, 13, 0, -2147483648, 2147483647, 0), (1, 6011, 0, -2147483648, 2147483647, 0), (1, 6008, 0, -2147483648, 2147483647, 0), (1, 16, 0, -2147483648, 2147483647, 0), (1, 19, 0, 0, 5, 0), (1, 6, 0, 0, 5, 0), (1, 9, 0, 0, 1, 0), (2, 6, 19, 1, 0, 0)], 0, 0), (36, [(50, 19, 6, 0)])),
  (137, ([(1, 1, 0), (1, 7, 0), (1, 6, 0), (0, 0, 0), (0, 0, 0), (0, 0, 0), (0, 0, 0), (8, 0, 0)], [(0, 0, 0), (1, 7, 0), (1, 6, 0)], [(1, 10, 0, 0, 1, 0), (1, 21023, 0, 0, 400, 0), (1, 13, 0, -2147483648, 2147483647, 0), (1, 6011, 0, -2147483648, 2147483647, 0), (1, 6008, 0, -2147483648, 2147483647, 0), (1, 16, 0, -2147483648, 2147483647, 0), (1, 19, 0, 0, 5, 0), (1, 6, 0, 0, 11, 0)], 0, 0), (35, [(50, 19, 6, 0)]))]
def kd_X1_plan_223c75_22 : List (Nat × sf_D × sf_M) := [(140, ([(1, 1, 0), (1, 7, 0), (1, 6, 0), (0, 0, 0), (0, 0, 0), (0, 0, 0), (0, 0, 0), (8, 0, 0)], [(0, 0, 0)], [(1, 10, 0, 0, 1, 0), (1, 21023, 0, 0, 400, 0), (1, 13, 0, -2147483648, 2147483647, 0), (1, 6011, 0, -2147483648, 2147483647, 0), (1, 6008, 0, -2147483648, 2147483647, 0), (1, 16, 0, -2147483648, 2147483647, 0), (1, 19, 0, 0, 5, 0), (1, 0, 0, 0, 250, 0)], 0, 0), (34, [(50, 19, 6, 0)])),
  (142, ([(1, 1, 0), (1, 7, 0), (1, 6, 0), (0, 0, 0), (0, 0, 0), (0, 0, 0), (0, 0, 0), (0, 0, 0)], [], [(1, 10, 0, 0, 1, 0), (1, 21023, 0, 0, 400, 0), (1, 13, 0, -2147483648, 2147483647, 0), (1, 6011, 0, -2147483648, 2147483647, 0), (1, 6008, 0, -2147483648, 2147483647, 0), (1, 16, 0, -2147483648, 2147483647, 0), (1, 19, 0, 0, 5, 0), (1, 22, 0, 0, 250, 0)], 0, 0), (33, [(50, 19, 6, 0)])),
  (143, ([(1, 1, 0), (1, 7, 0), (1, 6, 0), (0, 0, 0), (0, 0, 0), (0, 0, 0), (0, 0, 0), (0, 0, 0)], [(1, 1, 0)], [(1, 10, 0, 0, 1, 0), (1, 21023, 0, 0, 400, 0), (1, 13, 0, -2147483648, 2147483647, 0), (1, 6011, 0, -2147483648, 2147483647, 0), (1, 6008, 0, -2147483648, 2147483647, 0), (1, 16, 0, -2147483648, 2147483647, 0), (1, 19, 0, 0, 5, 0), (1, 22, 0, 0, 250, 0)], 0, 0), (32, [(50, 19, 6, 0)]))]
def kd_X1_plan_223c75_23 : List (Nat × sf_D × sf_M) := [(146, ([(1, 1, 0), (1, 7, 0), (1, 6, 0), (0, 0, 0), (0, 0, 0), (0, 0, 0), (0, 0, 0), (0, 0, 0)], [(1, 101, 0)], [(1, 10, 0, 0, 1, 0), (1, 21023, 0, 0, 400, 0), (1, 13, 0, -2147483648, 2147483647, 0), (1, 6011, 0, -2147483648, 2147483647, 0), (1, 6008, 0, -2147483648, 2147483647, 0), (1, 16, 0, -2147483648, 2147483647, 0), (1, 19, 0, 0, 5, 0), (1, 22, 0, 0, 250, 0)], 0, 0), (31, [(50, 19, 6, 0)])),
  (148, ([(1, 1, 0), (1, 7, 0), (1, 6, 0), (0, 0, 0), (0, 0, 0), (0, 0, 0), (0, 0, 0), (0, 0, 0)], [(0, 0, 0), (1, 101, 0)], [(1, 10, 0, 0, 1, 0), (1, 21023, 0, 0, 400, 0), (1, 13, 0, -2147483648, 2147483647, 0), (1, 6011, 0, -2147483648, 2147483647, 0), (1, 6008, 0, -2147483648, 2147483647, 0), (1, 16, 0, -2147483648, 2147483647, 0), (1, 19, 0, 0, 5, 0), (1, 22, 0, 0, 250, 0), (1, 3, 0, 0, 5, 0), (2, 3, 19, 1, 0, 0)], 0, 0), (30, [(50, 19, 6, 0)])),
  (150, ([(1, 1, 0), (1, 7, 0), (1, 6, 0), (0, 0, 0), (0, 0, 0), (0, 0, 0), (0, 0, 0), (0, 0, 0)], [(0, 0, 0), (0, 0, 0), (1, 101, 0)], [(1, 10, 0, 0, 1, 0), (1, 21023, 0, 0, 400, 0), (1, 13, 0, -2147483648, 2147483647, 0), (1, 6011, 0, -2147483648, 2147483647, 0), (1, 6008, 0, -2147483648, 2147483647, 0), (1, 16, 0, -2147483648, 2147483647, 0), (1, 19, 0, 0, 5, 0), (1, 22, 0, 0, 250, 0), (1, 3, 0, 0, 5, 0), (1, 6, 0, -2147483648, 2147483647, 0), (2, 3, 19, 1, 0, 0), (2, 6, 13, 1, 0, 0)], 0, 0), (29, [(50, 19, 6, 0)]))]
def kd_X1_plan_223c75_24 : List (Nat × sf_D × sf_M) := [(151, ([(1, 1, 0), (1, 7, 0), (1, 6, 0), (0, 0, 0), (0, 0, 0), (0, 0, 0), (0, 0, 0), (0, 0, 0)], [(1, 1, 0), (0, 0, 0), (0, 0, 0), (1, 101, 0)], [(1, 10, 0, 0, 1, 0), (1, 21023, 0, 0, 400, 0), (1, 13, 0, -2147483648, 2147483647, 0), (1, 6011, 0, -2147483648, 2147483647, 0), (1, 6008, 0, -2147483648, 2147483647, 0), (1, 16, 0, -2147483648, 2147483647, 0), (1, 19, 0, 0, 5, 0), (1, 22, 0, 0, 250, 0), (1, 3, 0, 0, 5, 0), (1, 6, 0, -2147483648, 2147483647, 0), (2, 3, 19, 1, 0, 0), (2, 6, 13, 1, 0, 0)], 0, 0), (28, [(50, 19, 6, 0)])),
  (154, ([(1, 1, 0), (1, 7, 0), (1, 6, 0), (0, 0, 0), (0, 0, 0), (0, 0, 0), (0, 0, 0), (0, 0, 0)], [(0, 0, 2147483647), (0, 0, 0), (0, 0, 0), (1, 101, 0)], [(1, 10, 0, 0, 1, 0), (1, 21023, 0, 0, 400, 0), (1, 13, 0, -2147483648, 2147483647, 0), (1, 6011, 0, -2147483648, 2147483647, 0), (1, 6008, 0, -2147483648, 2147483647, 0), (1, 16, 0, -2147483648, 2147483647, 0), (1, 19, 0, 0, 5, 0), (1, 22, 0, 0, 250, 0), (1, 3, 0, 0, 5, 0), (1, 6, 0, -2147483648, 2147483647, 0), (1, 9, 0, -2147483648, 2147483647, 0), (2, 3, 19, 1, 0, 0), (2, 6, 13, 1, 0, 0), (2, 9, 6011, 1, 0, 0)], 0, 0), (27, [(50, 19, 6, 0)]))]
def kd_X1_plan_223c75_25 : List (Nat × sf_D × sf_M) := [(155, ([(1, 1, 0), (1, 7, 0), (1, 6, 0), (0, 0, 0), (0, 0, 0), (0, 0, 0), (0, 0, 0), (0, 0, 0)], [(0, 0, 0), (0, 0, 0), (1, 101, 0)], [(1, 10, 0, 0, 1, 0), (1, 21023, 0, 0, 400, 0), (1, 13, 0, -2147483648, 2147483647, 0), (1, 6011, 0, -2147483648, 2147483647, 0), (1, 6008, 0, -2147483648, 2147483647, 0), (1, 16, 0, -2147483648, 2147483647, 0), (1, 19, 0, 0, 5, 0), (1, 22, 0, 0, 250, 0), (1, 3, 0, 0, 5, 0), (1, 6, 0, -2147483648, 2147483647, 0), (2, 3, 19, 1, 0, 0)], 0, 0), (26, [(50, 19, 6, 0)])),
  (156, ([(1, 1, 0), (1, 7, 0), (1, 6, 0), (0, 0, 0), (0, 0, 0), (0, 0, 0), (0, 0, 0), (0, 0, 0)], [], [(1, 10, 0, 0, 1, 0), (1, 21023, 0, 0, 400, 0), (1, 13, 0, -2147483648, 2147483647, 0), (1, 6011, 0, -2147483648, 2147483647, 0), (1, 6008, 0, -2147483648, 2147483647, 0), (1, 16, 0, -2147483648, 2147483647, 0), (1, 19, 0, 0, 5, 0), (1, 22, 0, 0, 250, 0)], 0, 0), (25, [(50, 19, 6, 0)])),
  (157, ([(1, 1, 0), (1, 7, 0), (1, 6, 0), (0, 0, 0), (0, 0, 0), (0, 0, 0), (0, 0, 0), (0, 0, 0)], [(1, 1, 0)], [(1, 10, 0, 0, 1, 0), (1, 21023, 0, 0, 400, 0), (1, 13, 0, -2147483648, 2147483647, 0), (1, 6011, 0, -2147483648, 2147483647, 0), (1, 6008, 0, -2147483648, 2147483647, 0), (1, 16, 0, -2147483648, 2147483647, 0), (1, 19, 0, 0, 5, 0), (1, 22, 0, 0, 250, 0)], 0, 0), (24, [(50, 19, 6, 0)]))]
def kd_X1_plan_223c75_26 : List (Nat × sf_D × sf_M) := [(160, ([(1, 1, 0), (1, 7, 0), (1, 6, 0), (0, 0, 0), (0, 0, 0), (0, 0, 0), (0, 0, 0), (0, 0, 0)], [(1, 100, 0)], [(1, 10, 0, 0, 1, 0), (1, 21023, 0, 0, 400, 0), (1, 13, 0, -2147483648, 2147483647, 0), (1, 6011, 0, -2147483648, 2147483647, 0), (1, 6008, 0, -2147483648, 2147483647, 0), (1, 16, 0, -2147483648, 2147483647, 0), (1, 19, 0, 0, 5, 0), (1, 22, 0, 0, 250, 0)], 0, 0), (23, [(50, 19, 6, 0)])),
  (162, ([(1, 1, 0), (1, 7, 0), (1, 6, 0), (0, 0, 0), (0, 0, 0), (0, 0, 0), (0, 0, 0), (0, 0, 0)], [(0, 0, 0), (1, 100, 0)], [(1, 10, 0, 0, 1, 0), (1, 21023, 0, 0, 400, 0), (1, 13, 0, -2147483648, 2147483647, 0), (1, 6011, 0, -2147483648, 2147483647, 0), (1, 6008, 0, -2147483648, 2147483647, 0), (1, 16, 0, -2147483648, 2147483647, 0), (1, 19, 0, 0, 5, 0), (1, 22, 0, 0, 250, 0), (1, 3, 0, 0, 5, 0), (2, 3, 19, 1, 0, 0)], 0, 0), (22, [(50, 19, 6, 0)])),
  (163, ([(1, 1, 0), (1, 7, 0), (1, 6, 0), (0, 0, 0), (0, 0, 0), (0, 0, 0), (0, 0, 0), (0, 0, 0)], [(1, 6, 0), (0, 0, 0), (1, 100, 0)], [(1, 10, 0, 0, 1, 0), (1, 21023, 0, 0, 400, 0), (1, 13, 0, -2147483648, 2147483647, 0), (1, 6011, 0, -2147483648, 2147483647, 0), (1, 6008, 0, -2147483648, 2147483647, 0), (1, 16, 0, -2147483648, 2147483647, 0), (1, 19, 0, 0, 5, 0), (1, 22, 0, 0, 250, 0), (1, 3, 0, 0, 5, 0), (2, 3, 19, 1, 0, 0)], 0, 0), (21, [(50, 19, 6, 0)]))]
def kd_X1_plan_223c75_27 : List (Nat × sf_D × sf_M) := [(166, ([(1, 1, 0), (1, 7, 0), (1, 6, 0), (0, 0, 0), (0, 0, 0), (0, 0, 0), (0, 0, 0), (0, 0, 0)], [(1, 149, 0), (0, 0, 0), (1, 100, 0)], [(1, 10, 0, 0, 1, 0), (1, 21023, 0, 0, 400, 0), (1, 13, 0, -2147483648, 2147483647, 0), (1, 6011, 0, -2147483648, 2147483647, 0), (1, 6008, 0, -2147483648, 2147483647, 0), (1, 16, 0, -2147483648, 2147483647, 0), (1, 19, 0, 0, 5, 0), (1, 22, 0, 0, 250, 0), (1, 3, 0, 0, 5, 0), (2, 3, 19, 1, 0, 0)], 0, 0), (20, [(50, 19, 6, 0)])),
  (168, ([(1, 1, 0), (1, 7, 0), (1, 6, 0), (0, 0, 0), (0, 0, 0), (0, 0, 0), (0, 0, 0), (0, 0, 0)], [(0, 0, 0), (1, 149, 0), (0, 0, 0), (1, 100, 0)], [(1, 10, 0, 0, 1, 0), (1, 21023, 0, 0, 400, 0), (1, 13, 0, -2147483648, 2147483647, 0), (1, 6011, 0, -2147483648, 2147483647, 0), (1, 6008, 0, -2147483648, 2147483647, 0), (1, 16, 0, -2147483648, 2147483647, 0), (1, 19, 0, 0, 5, 0), (1, 22, 0, 0, 250, 0), (1, 3, 0, 0, 5, 0), (1, 9, 0, 0, 5, 0), (2, 3, 19, 1, 0, 0), (2, 9, 19, 1, 0, 0)], 0, 0), (19, [(50, 19, 6, 0)]))]
def kd_X1_plan_223c75_28 : List (Nat × sf_D × sf_M) := [(169, ([(1, 1, 0), (1, 7, 0), (1, 6, 0), (0, 0, 0), (0, 0, 0), (0, 0, 0), (0, 0, 0), (0, 0, 0)], [(0, 0, 0), (0, 0, 0), (1, 149, 0), (0, 0, 0), (1, 100, 0)], [(1, 10, 0, 0, 1, 0), (1, 21023, 0, 0, 400, 0), (1, 13, 0, -2147483648, 2147483647, 0), (1, 6011, 0, -2147483648, 2147483647, 0), (1, 6008, 0, -2147483648, 2147483647, 0), (1, 16, 0, -2147483648, 2147483647, 0), (1, 19, 0, 0, 5, 0), (1, 22, 0, 0, 250, 0), (1, 3, 0, 0, 5, 0), (1, 9, 0, 0, 5, 0), (1, 12, 0, 0, 1, 0), (2, 3, 19, 1, 0, 0), (2, 9, 19, 1, 0, 0), (2, 12, 10, 1, 0, 0)], 0, 0), (18, [(50, 19, 6, 0)])),
  (172, ([(1, 1, 0), (1, 7, 0), (1, 6, 0), (0, 0, 0), (0, 0, 0), (0, 0, 0), (0, 0, 0), (0, 0, 0)], [(0, 0, 0), (1, 149, 0), (0, 0, 0), (1, 100, 0)], [(1, 10, 0, 0, 1, 0), (1, 21023, 0, 0, 400, 0), (1, 13, 0, -2147483648, 2147483647, 0), (1, 6011, 0, -2147483648, 2147483647, 0), (1, 6008, 0, -2147483648, 2147483647, 0), (1, 16, 0, -2147483648, 2147483647, 0), (1, 19, 0, 0, 5, 0), (1, 22, 0, 0, 250, 0), (1, 3, 0, 0, 5, 0), (1, 9, 0, 0, 11, 0), (2, 3, 19, 1, 0, 0)], 0, 0), (17, [(50, 19, 6, 0)]))]
def kd_X1_plan_223c75_29 : List (Nat × sf_D × sf_M) := [(173, ([(1, 1, 0), (1, 7, 0), (1, 6, 0), (0, 0, 0), (0, 0, 0), (0, 0, 0), (0, 0, 0), (0, 0, 0)], [(0, 0, 0), (0, 0, 0), (1, 100, 0)], [(1, 10, 0, 0, 1, 0), (1, 21023, 0, 0, 400, 0), (1, 13, 0, -2147483648, 2147483647, 0), (1, 6011, 0, -2147483648, 2147483647, 0), (1, 6008, 0, -2147483648, 2147483647, 0), (1, 16, 0, -2147483648, 2147483647, 0), (1, 19, 0, 0, 5, 0), (1, 22, 0, 0, 250, 0), (1, 3, 0, 0, 5, 0), (1, 6, 0, 0, 999, 0), (2, 3, 19, 1, 0, 0)], 0, 0), (16, [(50, 19, 6, 0)])),
  (175, ([(1, 1, 0), (1, 7, 0), (1, 6, 0), (0, 0, 0), (0, 0, 0), (0, 0, 0), (0, 0, 0), (0, 0, 0)], [(0, 0, 0), (0, 0, 0), (0, 0, 0), (1, 100, 0)], [(1, 10, 0, 0, 1, 0), (1, 21023, 0, 0, 400, 0), (1, 13, 0, -2147483648, 2147483647, 0), (1, 6011, 0, -2147483648, 2147483647, 0), (1, 6008, 0, -2147483648, 2147483647, 0), (1, 16, 0, -2147483648, 2147483647, 0), (1, 19, 0, 0, 5, 0), (1, 22, 0, 0, 250, 0), (1, 3, 0, 0, 5, 0), (1, 6, 0, 0, 999, 0), (1, 9, 0, 0, 250, 0), (2, 3, 19, 1, 0, 0), (2, 9, 22, 1, 0, 0)], 0, 0), (15, [(50, 19, 6, 0)]))]
def kd_X1_plan_223c75_30 : List (Nat × sf_D × sf_M) := [(176, ([(1, 1, 0), (1, 7, 0), (1, 6, 0), (0, 0, 0), (0, 0, 0), (0, 0, 0), (0, 0, 0), (0, 0, 0)], [(1, 1, 0), (0, 0, 0), (0, 0, 0), (0, 0, 0), (1, 100, 0)], [(1, 10, 0, 0, 1, 0), (1, 21023, 0, 0, 400, 0), (1, 13, 0, -2147483648, 2147483647, 0), (1, 6011, 0, -2147483648, 2147483647, 0), (1, 6008, 0, -2147483648, 2147483647, 0), (1, 16, 0, -2147483648, 2147483647, 0), (1, 19, 0, 0, 5, 0), (1, 22, 0, 0, 250, 0), (1, 3, 0, 0, 5, 0), (1, 6, 0, 0, 999, 0), (1, 9, 0, 0, 250, 0), (2, 3, 19, 1, 0, 0), (2, 9, 22, 1, 0, 0)], 0, 0), (14, [(50, 19, 6, 0)])),
  (179, ([(1, 1, 0), (1, 7, 0), (1, 6, 0), (0, 0, 0), (0, 0, 0), (0, 0, 0), (0, 0, 0), (0, 0, 0)], [(1, 101, 0), (0, 0, 0), (0, 0, 0), (0, 0, 0), (1, 100, 0)], [(1, 10, 0, 0, 1, 0), (1, 21023, 0, 0, 400, 0), (1, 13, 0, -2147483648, 2147483647, 0), (1, 6011, 0, -2147483648, 2147483647, 0), (1, 6008, 0, -2147483648, 2147483647, 0), (1, 16, 0, -2147483648, 2147483647, 0), (1, 19, 0, 0, 5, 0), (1, 22, 0, 0, 250, 0), (1, 3, 0, 0, 5, 0), (1, 6, 0, 0, 999, 0), (1, 9, 0, 0, 250, 0), (2, 3, 19, 1, 0, 0), (2, 9, 22, 1, 0, 0)], 0, 0), (13, [(50, 19, 6, 0)]))]
def kd_X1_plan_223c75_31 : List (Nat × sf_D × sf_M) := [(181, ([(1, 1, 0), (1, 7, 0), (1, 6, 0), (0, 0, 0), (0, 0, 0), (0, 0, 0), (0, 0, 0), (0, 0, 0)], [(0, 0, 0), (1, 101, 0), (0, 0, 0), (0, 0, 0), (0, 0, 0), (1, 100, 0)], [(1, 10, 0, 0, 1, 0), (1, 21023, 0, 0, 400, 0), (1, 13, 0, -2147483648, 2147483647, 0), (1, 6011, 0, -2147483648, 2147483647, 0), (1, 6008, 0, -2147483648, 2147483647, 0), (1, 16, 0, -2147483648, 2147483647, 0), (1, 19, 0, 0, 5, 0), (1, 22, 0, 0, 250, 0), (1, 3, 0, 0, 5, 0), (1, 6, 0, 0, 999, 0), (1, 9, 0, 0, 250, 0), (1, 15, 0, 0, 5, 0), (2, 3, 19, 1, 0, 0), (2, 9, 22, 1, 0, 0), (2, 15, 19, 1, 0, 0)], 0, 0), (12, [(50, 19, 6, 0)])),
  (182, ([(1, 1, 0), (1, 7, 0), (1, 6, 0), (0, 0, 0), (0, 0, 0), (0, 0, 0), (0, 0, 0), (0, 0, 0)], [(0, 0, 0), (0, 0, 0), (0, 0, 0), (0, 0, 0), (1, 100, 0)], [(1, 10, 0, 0, 1, 0), (1, 21023, 0, 0, 400, 0), (1, 13, 0, -2147483648, 2147483647, 0), (1, 6011, 0, -2147483648, 2147483647, 0), (1, 6008, 0, -2147483648, 2147483647, 0), (1, 16, 0, -2147483648, 2147483647, 0), (1, 19, 0, 0, 5, 0), (1, 22, 0, 0, 250, 0), (1, 3, 0, 0, 5, 0), (1, 6, 0, 0, 999, 0), (1, 9, 0, 0, 250, 0), (1, 12, 0, -2147483648, 2147483647, 0), (2, 3, 19, 1, 0, 0), (2, 9, 22, 1, 0, 0)], 0, 0), (11, [(50, 19, 6, 0)]))]
def kd_X1_plan_223c75_32 : List (Nat × sf_D × sf_M) := [(185, ([(1, 1, 0), (1, 7, 0), (1, 6, 0), (0, 0, 0), (0, 0, 0), (0, 0, 0), (0, 0, 0), (0, 0, 0)], [(0, 0, 0), (0, 0, 0), (1, 100, 0)], [(1, 10, 0, 0, 1, 0), (1, 21023, 0, 0, 400, 0), (1, 13, 0, -2147483648, 2147483647, 0), (1, 6011, 0, -2147483648, 2147483647, 0), (1, 6008, 0, -2147483648, 2147483647, 0), (1, 16, 0, -2147483648, 2147483647, 0), (1, 19, 0, 0, 5, 0), (1, 22, 0, 0, 250, 0), (1, 3, 0, 0, 5, 0), (1, 6, 0, 0, 250, 0), (2, 3, 19, 1, 0, 0)], 0, 0), (10, [(50, 19, 6, 0)])),
  (186, ([(1, 1, 0), (1, 7, 0), (1, 6, 0), (0, 0, 0), (0, 0, 0), (0, 0, 0), (0, 0, 0), (0, 0, 0)], [], [(1, 10, 0, 0, 1, 0), (1, 21023, 0, 0, 400, 0), (1, 13, 0, -2147483648, 2147483647, 0), (1, 6011, 0, -2147483648, 2147483647, 0), (1, 6008, 0, -2147483648, 2147483647, 0), (1, 16, 0, -2147483648, 2147483647, 0), (1, 19, 0, 0, 5, 0), (1, 22, 0, 0, 250, 0)], 0, 0), (9, [(50, 19, 6, 0)])),
  (187, ([(1, 1, 0), (1, 7, 0), (1, 6, 0), (0, 0, 0), (0, 0, 0), (0, 0, 0), (0, 0, 0), (0, 0, 0)], [(1, 1, 0)], [(1, 10, 0, 0, 1, 0), (1, 21023, 0, 0, 400, 0), (1, 13, 0, -2147483648, 2147483647, 0), (1, 6011, 0, -2147483648, 2147483647, 0), (1, 6008, 0, -2147483648, 2147483647, 0), (1, 16, 0, -2147483648, 2147483647, 0), (1, 19, 0, 0, 5, 0), (1, 22, 0, 0, 250, 0)], 0, 0), (8, [(50, 19, 6, 0)]))]
def kd_X1_plan_223c75_33 : List (Nat × sf_D × sf_M) := [(188, ([(1, 1, 0), (1, 7, 0), (1, 6, 0), (0, 0, 0), (0, 0, 0), (0, 0, 0), (0, 0, 0), (0, 0, 0)], [(1, 1, 0), (1, 1, 0)], [(1, 10, 0, 0, 1, 0), (1, 21023, 0, 0, 400, 0), (1, 13, 0, -2147483648, 2147483647, 0), (1, 6011, 0, -2147483648, 2147483647, 0), (1, 6008, 0, -2147483648, 2147483647, 0), (1, 16, 0, -2147483648, 2147483647, 0), (1, 19, 0, 0, 5, 0), (1, 22, 0, 0, 250, 0)], 0, 0), (7, [(50, 19, 6, 0)])),
  (191, ([(1, 1, 0), (1, 7, 0), (1, 6, 0), (0, 0, 0), (0, 0, 0), (0, 0, 0), (0, 0, 0), (0, 0, 0)], [(0, 0, 2147483647), (1, 1, 0)], [(1, 10, 0, 0, 1, 0), (1, 21023, 0, 0, 400, 0), (1, 13, 0, -2147483648, 2147483647, 0), (1, 6011, 0, -2147483648, 2147483647, 0), (1, 6008, 0, -2147483648, 2147483647, 0), (1, 16, 0, -2147483648, 2147483647, 0), (1, 19, 0, 0, 5, 0), (1, 22, 0, 0, 250, 0), (1, 3, 0, -2147483648, 2147483647, 0), (2, 3, 6011, 1, 0, 0)], 0, 0), (6, [(50, 19, 6, 0)])),
  (192, ([(1, 1, 0), (1, 7, 0), (1, 6, 0), (0, 0, 0), (0, 0, 0), (0, 0, 0), (0, 0, 0), (0, 0, 0)], [(1, 1, 0), (0, 0, 2147483647), (1, 1, 0)], [(1, 10, 0, 0, 1, 0), (1, 21023, 0, 0, 400, 0), (1, 13, 0, -2147483648, 2147483647, 0), (1, 6011, 0, -2147483648, 2147483647, 0), (1, 6008, 0, -2147483648, 2147483647, 0), (1, 16, 0, -2147483648, 2147483647, 0), (1, 19, 0, 0, 5, 0), (1, 22, 0, 0, 250, 0), (1, 3, 0, -2147483648, 2147483647, 0), (2, 3, 6011, 1, 0, 0)], 0, 0), (5, [(50, 19, 6, 0)]))]
def kd_X1_plan_223c75_34 : List (Nat × sf_D × sf_M) := [(195, ([(1, 1, 0), (1, 7, 0), (1, 6, 0), (0, 0, 0), (0, 0, 0), (0, 0, 0), (0, 0, 0), (0, 0, 0)], [(1, 100, 0), (0, 0, 2147483647), (1, 1, 0)], [(1, 10, 0, 0, 1, 0), (1, 21023, 0, 0, 400, 0), (1, 13, 0, -2147483648, 2147483647, 0), (1, 6011, 0, -2147483648, 2147483647, 0), (1, 6008, 0, -2147483648, 2147483647, 0), (1, 16, 0, -2147483648, 2147483647, 0), (1, 19, 0, 0, 5, 0), (1, 22, 0, 0, 250, 0), (1, 3, 0, -2147483648, 2147483647, 0), (2, 3, 6011, 1, 0, 0)], 0, 0), (4, [(50, 19, 6, 0)])),
  (197, ([(1, 1, 0), (1, 7, 0), (1, 6, 0), (0, 0, 0), (0, 0, 0), (0, 0, 0), (0, 0, 0), (0, 0, 0)], [(0, 0, 0), (1, 100, 0), (0, 0, 2147483647), (1, 1, 0)], [(1, 10, 0, 0, 1, 0), (1, 21023, 0, 0, 400, 0), (1, 13, 0, -2147483648, 2147483647, 0), (1, 6011, 0, -2147483648, 2147483647, 0), (1, 6008, 0, -2147483648, 2147483647, 0), (1, 16, 0, -2147483648, 2147483647, 0), (1, 19, 0, 0, 5, 0), (1, 22, 0, 0, 250, 0), (1, 3, 0, -2147483648, 2147483647, 0), (1, 9, 0, 0, 5, 0), (2, 3, 6011, 1, 0, 0), (2, 9, 19, 1, 0, 0)], 0, 0), (3, [(50, 19, 6, 0)]))]
def kd_X1_plan_223c75_35 : List (Nat × sf_D × sf_M) := [(198, ([(1, 1, 0), (1, 7, 0), (1, 6, 0), (0, 0, 0), (0, 0, 0), (0, 0, 0), (0, 0, 0), (0, 0, 0)], [(0, 0, 0), (0, 0, 2147483647), (1, 1, 0)], [(1, 10, 0, 0, 1, 0), (1, 21023, 0, 0, 400, 0), (1, 13, 0, -2147483648, 2147483647, 0), (1, 6011, 0, -2147483648, 2147483647, 0), (1, 6008, 0, -2147483648, 2147483647, 0), (1, 16, 0, -2147483648, 2147483647, 0), (1, 19, 0, 0, 5, 0), (1, 22, 0, 0, 250, 0), (1, 3, 0, -2147483648, 2147483647, 0), (1, 6, 0, -2147483648, 2147483647, 0), (2, 3, 6011, 1, 0, 0)], 0, 0), (2, [(50, 19, 6, 0)])),
  (199, ([(1, 1, 0), (1, 7, 0), (1, 6, 0), (0, 0, 0), (0, 0, 0), (0, 0, 0), (0, 0, 0), (0, 0, 0)], [(0, 0, 0), (1, 1, 0)], [(1, 10, 0, 0, 1, 0), (1, 21023, 0, 0, 400, 0), (1, 13, 0, -2147483648, 2147483647, 0), (1, 6011, 0, -2147483648, 2147483647, 0), (1, 6008, 0, -2147483648, 2147483647, 0), (1, 16, 0, -2147483648, 2147483647, 0), (1, 19, 0, 0, 5, 0), (1, 22, 0, 0, 250, 0), (1, 3, 0, -2147483648, 2147483647, 0)], 0, 0), (1, [(50, 19, 6, 0)])),
  (202, ([(1, 1, 0), (1, 7, 0), (1, 6, 0), (0, 0, 0), (0, 0, 0), (0, 0, 0), (0, 0, 0), (0, 0, 0)], [], [(1, 10, 0, 0, 1, 0), (1, 21023, 0, 0, 400, 0), (1, 13, 0, -2147483648, 2147483647, 0), (1, 6008, 0, -2147483648, 2147483647, 0), (1, 16, 0, -2147483648, 2147483647, 0), (1, 19, 0, 0, 5, 0), (1, 22, 0, 0, 250, 0), (1, 6011, 0, -2147483648, 2147483647, 0)], 0, 0), (0, [(50, 19, 6, 0)]))]
def kd_X1_plan_223c75_36 : List (Nat × sf_D × sf_M) := [(205, ([(1, 1, 0), (1, 7, 0), (1, 6, 0), (0, 0, 0), (0, 0, 0), (0, 0, 0), (0, 0, 0), (0, 0, 0)], [], [(1, 10, 0, 0, 1, 0), (1, 21023, 0, 0, 400, 0), (1, 13, 0, -2147483648, 2147483647, 0), (1, 6008, 0, -2147483648, 2147483647, 0), (1, 16, 0, -2147483648, 2147483647, 0), (1, 22, 0, 0, 250, 0), (1, 6011, 0, -2147483648, 2147483647, 0), (1, 19, 0, 1, 6, 0)], 0, 0), (47, [(50, 19, 6, 0)])),
  (208, ([(1, 1, 0), (1, 7, 0), (1, 6, 0), (0, 0, 0), (0, 0, 0), (0, 0, 0), (0, 0, 0), (8, 0, 0)], [], [(1, 10, 0, 0, 1, 0), (1, 21023, 0, 0, 400, 0), (1, 13, 0, -2147483648, 2147483647, 0), (1, 6011, 0, -2147483648, 2147483647, 0), (1, 6008, 0, -2147483648, 2147483647, 0), (1, 16, 0, -2147483648, 2147483647, 0), (1, 19, 0, 0, 6, 0)], 0, 0), (0, []))]
def kd_X1_plan_223c75 : List (Nat × sf_D × sf_M) := kd_X1_plan_223c75_0 ++ (kd_X1_plan_223c75_1 ++ (kd_X1_plan_223c75_2 ++ (kd_X1_plan_223c75_3 ++ (kd_X1_plan_223c75_4 ++ (kd_X1_plan_223c75_5 ++ (kd_X1_plan_223c75_6 ++ (kd_X1_plan_223c75_7 ++ (kd_X1_plan_223c75_8 ++ (kd_X1_plan_223c75_9 ++ (kd_X1_plan_223c75_10 ++ (kd_X1_plan_223c75_11 ++ (kd_X1_plan_223c75_12 ++ (kd_X1_plan_223c75_13 ++ (kd_X1_plan_223c75_14 ++ (kd_X1_plan_223c75_15 ++ (kd_X1_plan_223c75_16 ++ (kd_X1_plan_223c75_17 ++ (kd_X1_plan_223c75_18 ++ (kd_X1_plan_223c75_19 ++ (kd_X1_plan_223c75_20 ++ (kd_X1_plan_223c75_21 ++ (kd_X1_plan_223c75_22 ++ (kd_X1_plan_223c75_23 ++ (kd_X1_plan_223c75_24 ++ (kd_X1_plan_223c75_25 ++ (kd_X1_plan_223c75_26 ++ (kd_X1_plan_223c75_27 ++ (kd_X1_plan_223c75_28 ++ (kd_X1_plan_223c75_29 ++ (kd_X1_plan_223c75_30 ++ (kd_X1_plan_223c75_31 ++ (kd_X1_plan_223c75_32 ++ (kd_X1_plan_223c75_33 ++ (kd_X1_plan_223c75_34 ++ (kd_X1_plan_223c75_35 ++ (kd_X1_plan_223c75_36))))))))))))))))))))))))))))))))))))
set_option maxRecDepth 100000 in
theorem kt_X1_plan_223c75 : sf_chk [kq_X6_ferryShore_7c23bc, kq_X6_allMissed_d5e88f, kq_X10_slotOf_2f4f15, kq_X6_lackAt_865e4b, kq_X1_amountMoved_4b090c] kq_X1_plan_223c75 8 kc_X1_plan_223c75 kd_X1_plan_223c75 = true := by decide +kernel
set_option maxRecDepth 100000 in
theorem kl_X1_plan_223c75 : (kc_X1_plan_223c75).map (fun c => (c.1, sf_den ([Z_X6_ferryShore, Z_X6_allMissed, Z_X10_slotOf, Z_X6_lackAt, Z_X1_amountMoved] : List sf_X) c.2)) = L_X1_plan Z_X6_ferryShore Z_X6_allMissed Z_X10_slotOf Z_X6_lackAt Z_X1_amountMoved := rfl
theorem ct_X1_plan_223c75 : sf_ct kq_X1_plan_223c75 Z_X1_plan := by
  have h := sf_meth (K := [kq_X6_ferryShore_7c23bc, kq_X6_allMissed_d5e88f, kq_X10_slotOf_2f4f15, kq_X6_lackAt_865e4b, kq_X1_amountMoved_4b090c]) (E := [Z_X6_ferryShore, Z_X6_allMissed, Z_X10_slotOf, Z_X6_lackAt, Z_X1_amountMoved]) (k := kq_X1_plan_223c75) (nL := 8) (C := kc_X1_plan_223c75) (D := kd_X1_plan_223c75) (fun m k hk => match m, hk with
    | 0, hk => (Option.some.inj hk) ▸ ct_X6_ferryShore_7c23bc
    | 1, hk => (Option.some.inj hk) ▸ ct_X6_allMissed_d5e88f
    | 2, hk => (Option.some.inj hk) ▸ ct_X10_slotOf_2f4f15
    | 3, hk => (Option.some.inj hk) ▸ ct_X6_lackAt_865e4b
    | 4, hk => (Option.some.inj hk) ▸ ct_X1_amountMoved_4b090c
    | _ + 5, hk => (by cases hk)) kt_X1_plan_223c75
  rw [kl_X1_plan_223c75] at h
  exact h
def kq_X10_going_4c18a7 : sf_Q := ([(1, 10, 0)], [], some (0, 0, 0), [], [(1, 2, 3), (100, 0, 5), (101, 0, 5)])
def kc_X10_going_4c18a7 : List (Nat × sf_I) := [(0, 4, [1, 0]),
  (1, 23, [4, 10, 2]),
  (4, 4, [5, 0]),
  (5, 23, [8, 10, 13]),
  (8, 4, [9, 0]),
  (9, 23, [12, 10, 4]),
  (12, 32, [15, 0, 3, 1, 0, 0, 0, 0]),
  (15, 4, [16, 0]),
  (16, 23, [19, 10, 2]),
  (19, 23, [22, 1, 2]),
  (22, 35, [0, 0])]
def kd_X10_going_4c18a7 : List (Nat × sf_D × sf_M) := [(0, ([(1, 10, 0)], [], [], 0, 0), (10, [])),
  (1, ([(1, 10, 0)], [(1, 10, 0)], [], 0, 0), (9, [])),
  (4, ([(1, 10, 0)], [(1, 1, 0)], [], 0, 0), (8, [])),
  (5, ([(1, 10, 0)], [(1, 10, 0), (1, 1, 0)], [], 0, 0), (7, [])),
  (8, ([(1, 10, 0)], [(1, 7, 0), (1, 1, 0)], [], 0, 0), (6, [])),
  (9, ([(1, 10, 0)], [(1, 10, 0), (1, 7, 0), (1, 1, 0)], [], 0, 0), (5, [])),
  (12, ([(1, 10, 0)], [(1, 6, 0), (1, 7, 0), (1, 1, 0)], [], 0, 0), (4, [])),
  (15, ([(1, 10, 0)], [], [], 0, 0), (3, [])),
  (16, ([(1, 10, 0)], [(1, 10, 0)], [], 0, 0), (2, [])),
  (19, ([(1, 10, 0)], [(1, 1, 0)], [], 0, 0), (1, [])),
  (22, ([(1, 10, 0)], [(0, 0, 2147483647)], [(1, 0, 0, -2147483648, 2147483647, 0), (1, 6008, 0, -2147483648, 2147483647, 0), (2, 0, 6008, 1, 0, 0)], 0, 0), (0, []))]
set_option maxRecDepth 100000 in
theorem kt_X10_going_4c18a7 : sf_chk [kq_X1_plan_223c75] kq_X10_going_4c18a7 1 kc_X10_going_4c18a7 kd_X10_going_4c18a7 = true := by decide +kernel
set_option maxRecDepth 100000 in
theorem kl_X10_going_4c18a7 : (kc_X10_going_4c18a7).map (fun c => (c.1, sf_den ([Z_X1_plan] : List sf_X) c.2)) = L_X10_going Z_X1_plan := rfl
theorem ct_X10_going_4c18a7 : sf_ct kq_X10_going_4c18a7 Z_X10_going := by
  have h := sf_meth (K := [kq_X1_plan_223c75]) (E := [Z_X1_plan]) (k := kq_X10_going_4c18a7) (nL := 1) (C := kc_X10_going_4c18a7) (D := kd_X10_going_4c18a7) (fun m k hk => match m, hk with
    | 0, hk => (Option.some.inj hk) ▸ ct_X1_plan_223c75
    | _ + 1, hk => (by cases hk)) kt_X10_going_4c18a7
  rw [kl_X10_going_4c18a7] at h
  exact h
def kq_X10_goes_0df2a5 : sf_Q := ([(1, 10, 0), (0, 0, 0)], [], some (0, 0, 0), [], [(1, 2, 3), (100, 0, 5), (101, 0, 5)])
def kc_X10_goes_0df2a5 : List (Nat × sf_I) := [(0, 4, [1, 0]),
  (1, 2, [2, 1]),
  (2, 32, [5, 0, 2, 10, 0, 0, 0, 0]),
  (5, 20, [8, 10, 1]),
  (8, 0, [9, -1]),
  (9, 35, [0, 0]),
  (10, 4, [11, 0]),
  (11, 23, [14, 10, 2]),
  (14, 4, [15, 0]),
  (15, 23, [18, 10, 13]),
  (18, 4, [19, 0]),
  (19, 23, [22, 10, 4]),
  (22, 32, [25, 1, 3, 1, 0, 0, 0, 0]),
  (25, 4, [26, 0]),
  (26, 23, [29, 10, 2]),
  (29, 23, [32, 1, 0]),
  (32, 2, [33, 1]),
  (33, 25, [34, 1]),
  (34, 35, [0, 0])]
def kd_X10_goes_0df2a5_0 : List (Nat × sf_D × sf_M) := [(0, ([(1, 10, 0), (0, 0, 0)], [], [], 0, 0), (16, [])),
  (1, ([(1, 10, 0), (0, 0, 0)], [(1, 10, 0)], [], 0, 0), (15, [])),
  (2, ([(1, 10, 0), (0, 0, 0)], [(0, 0, 0), (1, 10, 0)], [(1, 3, 0, -2147483648, 2147483647, 0), (1, 4, 0, -2147483648, 2147483647, 0), (2, 3, 4, 1, 0, 0)], 0, 0), (14, [])),
  (5, ([(1, 10, 0), (0, 0, 0)], [(0, 0, 0)], [(1, 4, 0, -2147483648, 2147483647, 0), (1, 0, 0, 0, 1, 0), (3, 0, 4, 0, 5, 0)], 0, 0), (13, [])),
  (8, ([(1, 10, 0), (0, 0, 0)], [], [(1, 4, 0, -2147483648, 2147483647, 0)], 0, 0), (1, [])),
  (9, ([(1, 10, 0), (0, 0, 0)], [(0, 0, 0)], [(1, 4, 0, -2147483648, 2147483647, 0), (1, 0, 0, -1, -1, 0)], 0, 0), (0, [])),
  (10, ([(1, 10, 0), (0, 0, 0)], [], [(1, 4, 0, 0, 5, 0)], 0, 0), (12, [])),
  (11, ([(1, 10, 0), (0, 0, 0)], [(1, 10, 0)], [(1, 4, 0, 0, 5, 0)], 0, 0), (11, [])),
  (14, ([(1, 10, 0), (0, 0, 0)], [(1, 1, 0)], [(1, 4, 0, 0, 5, 0)], 0, 0), (10, [])),
  (15, ([(1, 10, 0), (0, 0, 0)], [(1, 10, 0), (1, 1, 0)], [(1, 4, 0, 0, 5, 0)], 0, 0), (9, [])),
  (18, ([(1, 10, 0), (0, 0, 0)], [(1, 7, 0), (1, 1, 0)], [(1, 4, 0, 0, 5, 0)], 0, 0), (8, [])),
  (19, ([(1, 10, 0), (0, 0, 0)], [(1, 10, 0), (1, 7, 0), (1, 1, 0)], [(1, 4, 0, 0, 5, 0)], 0, 0), (7, [])),
  (22, ([(1, 10, 0), (0, 0, 0)], [(1, 6, 0), (1, 7, 0), (1, 1, 0)], [(1, 4, 0, 0, 5, 0)], 0, 0), (6, [])),
  (25, ([(1, 10, 0), (0, 0, 0)], [], [(1, 4, 0, 0, 5, 0)], 0, 0), (5, [])),
  (26, ([(1, 10, 0), (0, 0, 0)], [(1, 10, 0)], [(1, 4, 0, 0, 5, 0)], 0, 0), (4, [])),
  (29, ([(1, 10, 0), (0, 0, 0)], [(1, 1, 0)], [(1, 4, 0, 0, 5, 0)], 0, 0), (3, [])),
  (32, ([(1, 10, 0), (0, 0, 0)], [(1, 100, 0)], [(1, 4, 0, 0, 5, 0)], 0, 0), (2, []))]
def kd_X10_goes_0df2a5_1 : List (Nat × sf_D × sf_M) := [(33, ([(1, 10, 0), (0, 0, 0)], [(0, 0, 0), (1, 100, 0)], [(1, 4, 0, 0, 5, 0), (1, 3, 0, 0, 5, 0), (2, 3, 4, 1, 0, 0)], 0, 0), (1, [])),
  (34, ([(1, 10, 0), (0, 0, 0)], [(0, 0, 0)], [(1, 4, 0, 0, 5, 0), (1, 0, 0, -2147483648, 2147483647, 0)], 0, 0), (0, []))]
def kd_X10_goes_0df2a5 : List (Nat × sf_D × sf_M) := kd_X10_goes_0df2a5_0 ++ (kd_X10_goes_0df2a5_1)
set_option maxRecDepth 100000 in
theorem kt_X10_goes_0df2a5 : sf_chk [kq_X10_isGood_0df2a5, kq_X1_plan_223c75] kq_X10_goes_0df2a5 2 kc_X10_goes_0df2a5 kd_X10_goes_0df2a5 = true := by decide +kernel
set_option maxRecDepth 100000 in
theorem kl_X10_goes_0df2a5 : (kc_X10_goes_0df2a5).map (fun c => (c.1, sf_den ([Z_X10_isGood, Z_X1_plan] : List sf_X) c.2)) = L_X10_goes Z_X10_isGood Z_X1_plan := rfl
theorem ct_X10_goes_0df2a5 : sf_ct kq_X10_goes_0df2a5 Z_X10_goes := by
  have h := sf_meth (K := [kq_X10_isGood_0df2a5, kq_X1_plan_223c75]) (E := [Z_X10_isGood, Z_X1_plan]) (k := kq_X10_goes_0df2a5) (nL := 2) (C := kc_X10_goes_0df2a5) (D := kd_X10_goes_0df2a5) (fun m k hk => match m, hk with
    | 0, hk => (Option.some.inj hk) ▸ ct_X10_isGood_0df2a5
    | 1, hk => (Option.some.inj hk) ▸ ct_X1_plan_223c75
    | _ + 2, hk => (by cases hk)) kt_X10_goes_0df2a5
  rw [kl_X10_goes_0df2a5] at h
  exact h
def kq_X6_copyFrom_80a60b : sf_Q := ([(1, 13, 0), (1, 6, 0)], [], none, [], [(13, 7, 9), (156, 0, 11), (157, 0, 11), (158, 0, 11), (159, 0, 11), (160, 0, 7), (161, 0, 7), (162, 0, 63)])
def kc_X6_copyFrom_80a60b : List (Nat × sf_I) := [(0, 4, [1, 1]),
  (1, 23, [4, 6, 0]),
  (4, 0, [5, 0]),
  (5, 4, [6, 0]),
  (6, 23, [9, 6, 0]),
  (9, 0, [10, 0]),
  (10, 0, [12, 12]),
  (12, 38, [15]),
  (15, 4, [16, 1]),
  (16, 23, [19, 6, 1]),
  (19, 0, [20, 0]),
  (20, 4, [21, 0]),
  (21, 23, [24, 6, 1]),
  (24, 0, [25, 0]),
  (25, 0, [27, 12]),
  (27, 38, [30]),
  (30, 4, [31, 1]),
  (31, 23, [34, 6, 2]),
  (34, 0, [35, 0]),
  (35, 4, [36, 0]),
  (36, 23, [39, 6, 2]),
  (39, 0, [40, 0]),
  (40, 0, [42, 12]),
  (42, 38, [45]),
  (45, 4, [46, 1]),
  (46, 23, [49, 6, 3]),
  (49, 0, [50, 0]),
  (50, 4, [51, 0]),
  (51, 23, [54, 6, 3]),
  (54, 0, [55, 0]),
  (55, 0, [57, 12]),
  (57, 38, [60]),
  (60, 4, [61, 1]),
  (61, 23, [64, 6, 4]),
  (64, 0, [65, 0]),
  (65, 4, [66, 0]),
  (66, 23, [69, 6, 4]),
  (69, 0, [70, 0]),
  (70, 0, [72, 8]),
  (72, 38, [75]),
  (75, 4, [76, 1]),
  (76, 23, [79, 6, 5]),
  (79, 0, [80, 0]),
  (80, 4, [81, 0]),
  (81, 23, [84, 6, 5]),
  (84, 0, [85, 0]),
  (85, 0, [87, 8]),
  (87, 38, [90]),
  (90, 4, [91, 1]),
  (91, 23, [94, 6, 6]),
  (94, 0, [95, 0]),
  (95, 4, [96, 0]),
  (96, 23, [99, 6, 6]),
  (99, 0, [100, 0]),
  (100, 0, [102, 64]),
  (102, 38, [105]),
  (105, 4, [106, 0]),
  (106, 4, [107, 1]),
  (107, 23, [110, 6, 7]),
  (110, 24, [113, 6, 7, 0]),
  (113, 4, [114, 0]),
  (114, 4, [115, 1]),
  (115, 23, [118, 6, 8]),
  (118, 24, [121, 6, 8, 0]),
  (121, 4, [122, 0]),
  (122, 4, [123, 1]),
  (123, 23, [126, 6, 9]),
  (126, 24, [129, 6, 9, 0]),
  (129, 37, [0, 0])]
def kd_X6_copyFrom_80a60b_0 : List (Nat × sf_D × sf_M) := [(0, ([(1, 13, 0), (1, 6, 0)], [], [], 0, 0), (68, [])),
  (1, ([(1, 13, 0), (1, 6, 0)], [(1, 6, 0)], [], 0, 0), (67, [])),
  (4, ([(1, 13, 0), (1, 6, 0)], [(1, 149, 0)], [], 0, 0), (66, [])),
  (5, ([(1, 13, 0), (1, 6, 0)], [(0, 0, 0), (1, 149, 0)], [(1, 3, 0, 0, 0, 0)], 0, 0), (65, [])),
  (6, ([(1, 13, 0), (1, 6, 0)], [(1, 13, 0), (0, 0, 0), (1, 149, 0)], [(1, 3, 0, 0, 0, 0)], 0, 0), (64, [])),
  (9, ([(1, 13, 0), (1, 6, 0)], [(1, 156, 0), (0, 0, 0), (1, 149, 0)], [(1, 3, 0, 0, 0, 0)], 0, 0), (63, [])),
  (10, ([(1, 13, 0), (1, 6, 0)], [(0, 0, 0), (1, 156, 0), (0, 0, 0), (1, 149, 0)], [(1, 3, 0, 0, 0, 0), (1, 9, 0, 0, 0, 0)], 0, 0), (62, [])),
  (12, ([(1, 13, 0), (1, 6, 0)], [(0, 0, 0), (0, 0, 0), (1, 156, 0), (0, 0, 0), (1, 149, 0)], [(1, 3, 0, 0, 0, 0), (1, 9, 0, 0, 0, 0), (1, 12, 0, 12, 12, 0)], 0, 0), (61, [])),
  (15, ([(1, 13, 0), (1, 6, 0)], [], [], 0, 0), (60, [])),
  (16, ([(1, 13, 0), (1, 6, 0)], [(1, 6, 0)], [], 0, 0), (59, [])),
  (19, ([(1, 13, 0), (1, 6, 0)], [(1, 150, 0)], [], 0, 0), (58, [])),
  (20, ([(1, 13, 0), (1, 6, 0)], [(0, 0, 0), (1, 150, 0)], [(1, 3, 0, 0, 0, 0)], 0, 0), (57, [])),
  (21, ([(1, 13, 0), (1, 6, 0)], [(1, 13, 0), (0, 0, 0), (1, 150, 0)], [(1, 3, 0, 0, 0, 0)], 0, 0), (56, [])),
  (24, ([(1, 13, 0), (1, 6, 0)], [(1, 157, 0), (0, 0, 0), (1, 150, 0)], [(1, 3, 0, 0, 0, 0)], 0, 0), (55, [])),
  (25, ([(1, 13, 0), (1, 6, 0)], [(0, 0, 0), (1, 157, 0), (0, 0, 0), (1, 150, 0)], [(1, 3, 0, 0, 0, 0), (1, 9, 0, 0, 0, 0)], 0, 0), (54, [])),
  (27, ([(1, 13, 0), (1, 6, 0)], [(0, 0, 0), (0, 0, 0), (1, 157, 0), (0, 0, 0), (1, 150, 0)], [(1, 3, 0, 0, 0, 0), (1, 9, 0, 0, 0, 0), (1, 12, 0, 12, 12, 0)], 0, 0), (53, [])),
  (30, ([(1, 13, 0), (1, 6, 0)], [], [], 0, 0), (52, [])),
  (31, ([(1, 13, 0), (1, 6, 0)], [(1, 6, 0)], [], 0, 0), (51, [])),
  (34, ([(1, 13, 0), (1, 6, 0)], [(1, 151, 0)], [], 0, 0), (50, [])),
  (35, ([(1, 13, 0), (1, 6, 0)], [(0, 0, 0), (1, 151, 0)], [(1, 3, 0, 0, 0, 0)], 0, 0), (49, [])),
  (36, ([(1, 13, 0), (1, 6, 0)], [(1, 13, 0), (0, 0, 0), (1, 151, 0)], [(1, 3, 0, 0, 0, 0)], 0, 0), (48, []))]
def kd_X6_copyFrom_80a60b_1 : List (Nat × sf_D × sf_M) := [(39, ([(1, 13, 0), (1, 6, 0)], [(1, 158, 0), (0, 0, 0), (1, 151, 0)], [(1, 3, 0, 0, 0, 0)], 0, 0), (47, [])),
  (40, ([(1, 13, 0), (1, 6, 0)], [(0, 0, 0), (1, 158, 0), (0, 0, 0), (1, 151, 0)], [(1, 3, 0, 0, 0, 0), (1, 9, 0, 0, 0, 0)], 0, 0), (46, [])),
  (42, ([(1, 13, 0), (1, 6, 0)], [(0, 0, 0), (0, 0, 0), (1, 158, 0), (0, 0, 0), (1, 151, 0)], [(1, 3, 0, 0, 0, 0), (1, 9, 0, 0, 0, 0), (1, 12, 0, 12, 12, 0)], 0, 0), (45, [])),
  (45, ([(1, 13, 0), (1, 6, 0)], [], [], 0, 0), (44, [])),
  (46, ([(1, 13, 0), (1, 6, 0)], [(1, 6, 0)], [], 0, 0), (43, [])),
  (49, ([(1, 13, 0), (1, 6, 0)], [(1, 152, 0)], [], 0, 0), (42, [])),
  (50, ([(1, 13, 0), (1, 6, 0)], [(0, 0, 0), (1, 152, 0)], [(1, 3, 0, 0, 0, 0)], 0, 0), (41, [])),
  (51, ([(1, 13, 0), (1, 6, 0)], [(1, 13, 0), (0, 0, 0), (1, 152, 0)], [(1, 3, 0, 0, 0, 0)], 0, 0), (40, [])),
  (54, ([(1, 13, 0), (1, 6, 0)], [(1, 159, 0), (0, 0, 0), (1, 152, 0)], [(1, 3, 0, 0, 0, 0)], 0, 0), (39, [])),
  (55, ([(1, 13, 0), (1, 6, 0)], [(0, 0, 0), (1, 159, 0), (0, 0, 0), (1, 152, 0)], [(1, 3, 0, 0, 0, 0), (1, 9, 0, 0, 0, 0)], 0, 0), (38, [])),
  (57, ([(1, 13, 0), (1, 6, 0)], [(0, 0, 0), (0, 0, 0), (1, 159, 0), (0, 0, 0), (1, 152, 0)], [(1, 3, 0, 0, 0, 0), (1, 9, 0, 0, 0, 0), (1, 12, 0, 12, 12, 0)], 0, 0), (37, [])),
  (60, ([(1, 13, 0), (1, 6, 0)], [], [], 0, 0), (36, [])),
  (61, ([(1, 13, 0), (1, 6, 0)], [(1, 6, 0)], [], 0, 0), (35, [])),
  (64, ([(1, 13, 0), (1, 6, 0)], [(1, 153, 0)], [], 0, 0), (34, [])),
  (65, ([(1, 13, 0), (1, 6, 0)], [(0, 0, 0), (1, 153, 0)], [(1, 3, 0, 0, 0, 0)], 0, 0), (33, [])),
  (66, ([(1, 13, 0), (1, 6, 0)], [(1, 13, 0), (0, 0, 0), (1, 153, 0)], [(1, 3, 0, 0, 0, 0)], 0, 0), (32, [])),
  (69, ([(1, 13, 0), (1, 6, 0)], [(1, 160, 0), (0, 0, 0), (1, 153, 0)], [(1, 3, 0, 0, 0, 0)], 0, 0), (31, [])),
  (70, ([(1, 13, 0), (1, 6, 0)], [(0, 0, 0), (1, 160, 0), (0, 0, 0), (1, 153, 0)], [(1, 3, 0, 0, 0, 0), (1, 9, 0, 0, 0, 0)], 0, 0), (30, []))]
def kd_X6_copyFrom_80a60b_2 : List (Nat × sf_D × sf_M) := [(72, ([(1, 13, 0), (1, 6, 0)], [(0, 0, 0), (0, 0, 0), (1, 160, 0), (0, 0, 0), (1, 153, 0)], [(1, 3, 0, 0, 0, 0), (1, 9, 0, 0, 0, 0), (1, 12, 0, 8, 8, 0)], 0, 0), (29, [])),
  (75, ([(1, 13, 0), (1, 6, 0)], [], [], 0, 0), (28, [])),
  (76, ([(1, 13, 0), (1, 6, 0)], [(1, 6, 0)], [], 0, 0), (27, [])),
  (79, ([(1, 13, 0), (1, 6, 0)], [(1, 154, 0)], [], 0, 0), (26, [])),
  (80, ([(1, 13, 0), (1, 6, 0)], [(0, 0, 0), (1, 154, 0)], [(1, 3, 0, 0, 0, 0)], 0, 0), (25, [])),
  (81, ([(1, 13, 0), (1, 6, 0)], [(1, 13, 0), (0, 0, 0), (1, 154, 0)], [(1, 3, 0, 0, 0, 0)], 0, 0), (24, [])),
  (84, ([(1, 13, 0), (1, 6, 0)], [(1, 161, 0), (0, 0, 0), (1, 154, 0)], [(1, 3, 0, 0, 0, 0)], 0, 0), (23, [])),
  (85, ([(1, 13, 0), (1, 6, 0)], [(0, 0, 0), (1, 161, 0), (0, 0, 0), (1, 154, 0)], [(1, 3, 0, 0, 0, 0), (1, 9, 0, 0, 0, 0)], 0, 0), (22, [])),
  (87, ([(1, 13, 0), (1, 6, 0)], [(0, 0, 0), (0, 0, 0), (1, 161, 0), (0, 0, 0), (1, 154, 0)], [(1, 3, 0, 0, 0, 0), (1, 9, 0, 0, 0, 0), (1, 12, 0, 8, 8, 0)], 0, 0), (21, [])),
  (90, ([(1, 13, 0), (1, 6, 0)], [], [], 0, 0), (20, [])),
  (91, ([(1, 13, 0), (1, 6, 0)], [(1, 6, 0)], [], 0, 0), (19, [])),
  (94, ([(1, 13, 0), (1, 6, 0)], [(1, 155, 0)], [], 0, 0), (18, [])),
  (95, ([(1, 13, 0), (1, 6, 0)], [(0, 0, 0), (1, 155, 0)], [(1, 3, 0, 0, 0, 0)], 0, 0), (17, [])),
  (96, ([(1, 13, 0), (1, 6, 0)], [(1, 13, 0), (0, 0, 0), (1, 155, 0)], [(1, 3, 0, 0, 0, 0)], 0, 0), (16, [])),
  (99, ([(1, 13, 0), (1, 6, 0)], [(1, 162, 0), (0, 0, 0), (1, 155, 0)], [(1, 3, 0, 0, 0, 0)], 0, 0), (15, [])),
  (100, ([(1, 13, 0), (1, 6, 0)], [(0, 0, 0), (1, 162, 0), (0, 0, 0), (1, 155, 0)], [(1, 3, 0, 0, 0, 0), (1, 9, 0, 0, 0, 0)], 0, 0), (14, [])),
  (102, ([(1, 13, 0), (1, 6, 0)], [(0, 0, 0), (0, 0, 0), (1, 162, 0), (0, 0, 0), (1, 155, 0)], [(1, 3, 0, 0, 0, 0), (1, 9, 0, 0, 0, 0), (1, 12, 0, 64, 64, 0)], 0, 0), (13, [])),
  (105, ([(1, 13, 0), (1, 6, 0)], [], [], 0, 0), (12, [])),
  (106, ([(1, 13, 0), (1, 6, 0)], [(1, 13, 0)], [], 0, 0), (11, [])),
  (107, ([(1, 13, 0), (1, 6, 0)], [(1, 6, 0), (1, 13, 0)], [], 0, 0), (10, []))]
def kd_X6_copyFrom_80a60b_3 : List (Nat × sf_D × sf_M) := [(110, ([(1, 13, 0), (1, 6, 0)], [(0, 0, 400), (1, 13, 0)], [(1, 3, 0, 0, 400, 0), (1, 21023, 0, -2147483648, 2147483647, 0), (2, 3, 21023, 1, 0, 0)], 0, 0), (9, [])),
  (113, ([(1, 13, 0), (1, 6, 0)], [], [(1, 42023, 0, 0, 400, 0), (1, 21023, 0, -2147483648, 2147483647, 0), (2, 42023, 21023, 1, 0, 0)], 0, 0), (8, [])),
  (114, ([(1, 13, 0), (1, 6, 0)], [(1, 13, 0)], [(1, 42023, 0, 0, 400, 0), (1, 21023, 0, -2147483648, 2147483647, 0), (2, 42023, 21023, 1, 0, 0)], 0, 0), (7, [])),
  (115, ([(1, 13, 0), (1, 6, 0)], [(1, 6, 0), (1, 13, 0)], [(1, 42023, 0, 0, 400, 0), (1, 21023, 0, -2147483648, 2147483647, 0), (2, 42023, 21023, 1, 0, 0)], 0, 0), (6, [])),
  (118, ([(1, 13, 0), (1, 6, 0)], [(0, 0, 2147483647), (1, 13, 0)], [(1, 42023, 0, 0, 400, 0), (1, 21023, 0, -2147483648, 2147483647, 0), (1, 3, 0, -2147483648, 2147483647, 0), (1, 21026, 0, -2147483648, 2147483647, 0), (2, 42023, 21023, 1, 0, 0), (2, 3, 21026, 1, 0, 0)], 0, 0), (5, [])),
  (121, ([(1, 13, 0), (1, 6, 0)], [], [(1, 42023, 0, 0, 400, 0), (1, 21023, 0, -2147483648, 2147483647, 0), (1, 42026, 0, -2147483648, 2147483647, 0), (1, 21026, 0, -2147483648, 2147483647, 0), (2, 42023, 21023, 1, 0, 0), (2, 42026, 21026, 1, 0, 0)], 0, 0), (4, [])),
  (122, ([(1, 13, 0), (1, 6, 0)], [(1, 13, 0)], [(1, 42023, 0, 0, 400, 0), (1, 21023, 0, -2147483648, 2147483647, 0), (1, 42026, 0, -2147483648, 2147483647, 0), (1, 21026, 0, -2147483648, 2147483647, 0), (2, 42023, 21023, 1, 0, 0), (2, 42026, 21026, 1, 0, 0)], 0, 0), (3, []))]
def kd_X6_copyFrom_80a60b_4 : List (Nat × sf_D × sf_M) := [(123, ([(1, 13, 0), (1, 6, 0)], [(1, 6, 0), (1, 13, 0)], [(1, 42023, 0, 0, 400, 0), (1, 21023, 0, -2147483648, 2147483647, 0), (1, 42026, 0, -2147483648, 2147483647, 0), (1, 21026, 0, -2147483648, 2147483647, 0), (2, 42023, 21023, 1, 0, 0), (2, 42026, 21026, 1, 0, 0)], 0, 0), (2, [])),
  (126, ([(1, 13, 0), (1, 6, 0)], [(0, 0, 2147483647), (1, 13, 0)], [(1, 42023, 0, 0, 400, 0), (1, 21023, 0, -2147483648, 2147483647, 0), (1, 42026, 0, -2147483648, 2147483647, 0), (1, 21026, 0, -2147483648, 2147483647, 0), (1, 3, 0, -2147483648, 2147483647, 0), (1, 21029, 0, -2147483648, 2147483647, 0), (2, 42023, 21023, 1, 0, 0), (2, 42026, 21026, 1, 0, 0), (2, 3, 21029, 1, 0, 0)], 0, 0), (1, [])),
  (129, ([(1, 13, 0), (1, 6, 0)], [], [(1, 42023, 0, 0, 400, 0), (1, 21023, 0, -2147483648, 2147483647, 0), (1, 42026, 0, -2147483648, 2147483647, 0), (1, 21026, 0, -2147483648, 2147483647, 0), (1, 42029, 0, -2147483648, 2147483647, 0), (1, 21029, 0, -2147483648, 2147483647, 0), (2, 42023, 21023, 1, 0, 0), (2, 42026, 21026, 1, 0, 0), (2, 42029, 21029, 1, 0, 0)], 0, 0), (0, []))]
def kd_X6_copyFrom_80a60b : List (Nat × sf_D × sf_M) := kd_X6_copyFrom_80a60b_0 ++ (kd_X6_copyFrom_80a60b_1 ++ (kd_X6_copyFrom_80a60b_2 ++ (kd_X6_copyFrom_80a60b_3 ++ (kd_X6_copyFrom_80a60b_4))))
set_option maxRecDepth 100000 in
theorem kt_X6_copyFrom_80a60b : sf_chk [] kq_X6_copyFrom_80a60b 2 kc_X6_copyFrom_80a60b kd_X6_copyFrom_80a60b = true := by decide +kernel
set_option maxRecDepth 100000 in
theorem kl_X6_copyFrom_80a60b : (kc_X6_copyFrom_80a60b).map (fun c => (c.1, sf_den ([] : List sf_X) c.2)) = L_X6_copyFrom := rfl
theorem ct_X6_copyFrom_80a60b : sf_ct kq_X6_copyFrom_80a60b Z_X6_copyFrom := by
  have h := sf_meth (K := []) (E := []) (k := kq_X6_copyFrom_80a60b) (nL := 2) (C := kc_X6_copyFrom_80a60b) (D := kd_X6_copyFrom_80a60b) (fun m k hk => match m, hk with
    | _ + 0, hk => (by cases hk)) kt_X6_copyFrom_80a60b
  rw [kl_X6_copyFrom_80a60b] at h
  exact h
def kq_X10_crosses_0df2a5 : sf_Q := ([(1, 10, 0), (0, 0, 0)], [], some (0, 0, 0), [(1, 0, 0, -1, 399, 0)], [(1, 2, 3), (13, 7, 9), (100, 0, 5), (101, 0, 5), (156, 0, 11), (157, 0, 11), (158, 0, 11), (159, 0, 11), (160, 0, 7), (161, 0, 7), (162, 0, 63)])
def kc_X10_crosses_0df2a5 : List (Nat × sf_I) := [(0, 4, [1, 0]),
  (1, 2, [2, 1]),
  (2, 32, [5, 0, 2, 10, 0, 0, 0, 0]),
  (5, 20, [8, 19, 0]),
  (8, 4, [9, 0]),
  (9, 23, [12, 10, 4]),
  (12, 2, [13, 1]),
  (13, 32, [16, 1, 2, 6, 0, 0, 0, 0]),
  (16, 20, [19, 21, 1]),
  (19, 0, [20, -1]),
  (20, 35, [0, 0]),
  (21, 4, [22, 0]),
  (22, 23, [25, 10, 5]),
  (25, 4, [26, 0]),
  (26, 23, [29, 10, 4]),
  (29, 32, [32, 2, 2, 6, 0, 0, 0, 0]),
  (32, 0, [33, 0]),
  (33, 5, [34, 2]),
  (34, 2, [35, 2]),
  (35, 0, [37, 100]),
  (37, 21, [40, 100, 5]),
  (40, 4, [41, 0]),
  (41, 23, [44, 10, 5]),
  (44, 23, [47, 6, 7]),
  (47, 0, [50, 400]),
  (50, 21, [53, 100, 5]),
  (53, 4, [54, 0]),
  (54, 23, [57, 10, 5]),
  (57, 23, [60, 6, 7]),
  (60, 5, [61, 3]),
  (61, 4, [62, 0]),
  (62, 23, [65, 10, 2]),
  (65, 4, [66, 0]),
  (66, 23, [69, 10, 13]),
  (69, 4, [70, 0]),
  (70, 23, [73, 10, 5]),
  (73, 0, [74, 1]),
  (74, 32, [77, 3, 4, 1, 0, 0, 0, 0]),
  (77, 19, [78]),
  (78, 4, [79, 0]),
  (79, 23, [82, 10, 2]),
  (82, 23, [85, 1, 2]),
  (85, 0, [86, 1]),
  (86, 2, [87, 1]),
  (87, 9, [88, 6]),
  (88, 9, [89, 3]),
  (89, 20, [92, 94, 0]),
  (92, 2, [93, 3]),
  (93, 35, [0, 0]),
  (94, 8, [97, 2, 1]),
  (97, 22, [34]),
  (100, 0, [101, -1]),
  (101, 35, [0, 0])]
def kd_X10_crosses_0df2a5_0 : List (Nat × sf_D × sf_M) := [(0, ([(1, 10, 0), (0, 0, 0), (8, 0, 0), (8, 0, 0)], [], [], 0, 0), (3346, [])),
  (1, ([(1, 10, 0), (0, 0, 0), (8, 0, 0), (8, 0, 0)], [(1, 10, 0)], [], 0, 0), (3345, [])),
  (2, ([(1, 10, 0), (0, 0, 0), (8, 0, 0), (8, 0, 0)], [(0, 0, 0), (1, 10, 0)], [(1, 3, 0, -2147483648, 2147483647, 0), (1, 4, 0, -2147483648, 2147483647, 0), (2, 3, 4, 1, 0, 0)], 0, 0), (3344, [])),
  (5, ([(1, 10, 0), (0, 0, 0), (8, 0, 0), (8, 0, 0)], [(0, 0, 0)], [(1, 4, 0, -2147483648, 2147483647, 0), (1, 0, 0, 0, 1, 0), (3, 0, 4, 0, 7, 0)], 0, 0), (3343, [])),
  (8, ([(1, 10, 0), (0, 0, 0), (8, 0, 0), (8, 0, 0)], [], [(1, 4, 0, 0, 7, 0)], 0, 0), (3342, [])),
  (9, ([(1, 10, 0), (0, 0, 0), (8, 0, 0), (8, 0, 0)], [(1, 10, 0)], [(1, 4, 0, 0, 7, 0)], 0, 0), (3341, [])),
  (12, ([(1, 10, 0), (0, 0, 0), (8, 0, 0), (8, 0, 0)], [(1, 6, 0)], [(1, 4, 0, 0, 7, 0)], 0, 0), (3340, [])),
  (13, ([(1, 10, 0), (0, 0, 0), (8, 0, 0), (8, 0, 0)], [(0, 0, 0), (1, 6, 0)], [(1, 4, 0, 0, 7, 0), (1, 3, 0, 0, 7, 0), (2, 3, 4, 1, 0, 0)], 0, 0), (3339, [])),
  (16, ([(1, 10, 0), (0, 0, 0), (8, 0, 0), (8, 0, 0)], [(0, 0, 0)], [(1, 4, 0, 0, 7, 0), (1, 0, 0, 0, 1, 0)], 0, 0), (3338, [])),
  (19, ([(1, 10, 0), (0, 0, 0), (8, 0, 0), (8, 0, 0)], [], [(1, 4, 0, -2147483648, 2147483647, 0)], 0, 0), (1, [])),
  (20, ([(1, 10, 0), (0, 0, 0), (8, 0, 0), (8, 0, 0)], [(0, 0, 0)], [(1, 4, 0, -2147483648, 2147483647, 0), (1, 0, 0, -1, -1, 0)], 0, 0), (0, []))]
def kd_X10_crosses_0df2a5_1 : List (Nat × sf_D × sf_M) := [(21, ([(1, 10, 0), (0, 0, 0), (8, 0, 0), (8, 0, 0)], [], [(1, 4, 0, 0, 7, 0)], 0, 0), (3337, [])),
  (22, ([(1, 10, 0), (0, 0, 0), (8, 0, 0), (8, 0, 0)], [(1, 10, 0)], [(1, 4, 0, 0, 7, 0)], 0, 0), (3336, [])),
  (25, ([(1, 10, 0), (0, 0, 0), (8, 0, 0), (8, 0, 0)], [(1, 13, 0)], [(1, 4, 0, 0, 7, 0)], 0, 0), (3335, [])),
  (26, ([(1, 10, 0), (0, 0, 0), (8, 0, 0), (8, 0, 0)], [(1, 10, 0), (1, 13, 0)], [(1, 4, 0, 0, 7, 0)], 0, 0), (3334, [])),
  (29, ([(1, 10, 0), (0, 0, 0), (8, 0, 0), (8, 0, 0)], [(1, 6, 0), (1, 13, 0)], [(1, 4, 0, 0, 7, 0)], 0, 0), (3333, [])),
  (32, ([(1, 10, 0), (0, 0, 0), (8, 0, 0), (8, 0, 0)], [], [(1, 4, 0, 0, 7, 0)], 0, 0), (3332, [])),
  (33, ([(1, 10, 0), (0, 0, 0), (8, 0, 0), (8, 0, 0)], [(0, 0, 0)], [(1, 4, 0, 0, 7, 0), (1, 0, 0, 0, 0, 0)], 0, 0), (3331, [])),
  (34, ([(1, 10, 0), (0, 0, 0), (0, 0, 0), (8, 0, 0)], [], [(1, 4, 0, 0, 7, 0), (1, 7, 0, 0, 100, 0)], 0, 0), (30, [(33, 7, 100, 0)])),
  (35, ([(1, 10, 0), (0, 0, 0), (0, 0, 0), (8, 0, 0)], [(0, 0, 0)], [(1, 4, 0, 0, 7, 0), (1, 7, 0, 0, 100, 0), (1, 0, 0, 0, 100, 0), (2, 0, 7, 1, 0, 0)], 0, 0), (29, [(33, 7, 100, 0)])),
  (37, ([(1, 10, 0), (0, 0, 0), (0, 0, 0), (8, 0, 0)], [(0, 0, 0), (0, 0, 0)], [(1, 4, 0, 0, 7, 0), (1, 7, 0, 0, 100, 0), (1, 0, 0, 0, 100, 0), (1, 3, 0, 100, 100, 0), (2, 0, 7, 1, 0, 0)], 0, 0), (28, [(33, 7, 100, 0)]))]
def kd_X10_crosses_0df2a5_2 : List (Nat × sf_D × sf_M) := [(40, ([(1, 10, 0), (0, 0, 0), (0, 0, 0), (8, 0, 0)], [], [(1, 4, 0, 0, 7, 0), (1, 7, 0, 0, 99, 0)], 0, 0), (27, [(33, 7, 100, 0)])),
  (41, ([(1, 10, 0), (0, 0, 0), (0, 0, 0), (8, 0, 0)], [(1, 10, 0)], [(1, 4, 0, 0, 7, 0), (1, 7, 0, 0, 99, 0)], 0, 0), (26, [(33, 7, 100, 0)])),
  (44, ([(1, 10, 0), (0, 0, 0), (0, 0, 0), (8, 0, 0)], [(1, 13, 0)], [(1, 4, 0, 0, 7, 0), (1, 7, 0, 0, 99, 0)], 0, 0), (25, [(33, 7, 100, 0)])),
  (47, ([(1, 10, 0), (0, 0, 0), (0, 0, 0), (8, 0, 0)], [(0, 0, 400)], [(1, 4, 0, 0, 7, 0), (1, 7, 0, 0, 99, 0), (1, 0, 0, 0, 400, 0), (1, 42023, 0, -2147483648, 2147483647, 0), (2, 0, 42023, 1, 0, 0)], 0, 0), (24, [(33, 7, 100, 0)])),
  (50, ([(1, 10, 0), (0, 0, 0), (0, 0, 0), (8, 0, 0)], [(0, 0, 0), (0, 0, 400)], [(1, 4, 0, 0, 7, 0), (1, 7, 0, 0, 99, 0), (1, 0, 0, 0, 400, 0), (1, 42023, 0, -2147483648, 2147483647, 0), (1, 3, 0, 400, 400, 0), (2, 0, 42023, 1, 0, 0)], 0, 0), (23, [(33, 7, 100, 0)])),
  (53, ([(1, 10, 0), (0, 0, 0), (0, 0, 0), (8, 0, 0)], [], [(1, 4, 0, 0, 7, 0), (1, 7, 0, 0, 99, 0), (1, 42023, 0, 0, 399, 0)], 0, 0), (22, [(33, 7, 100, 0)])),
  (54, ([(1, 10, 0), (0, 0, 0), (0, 0, 0), (8, 0, 0)], [(1, 10, 0)], [(1, 4, 0, 0, 7, 0), (1, 7, 0, 0, 99, 0), (1, 42023, 0, 0, 399, 0)], 0, 0), (21, [(33, 7, 100, 0)]))]
def kd_X10_crosses_0df2a5_3 : List (Nat × sf_D × sf_M) := [(57, ([(1, 10, 0), (0, 0, 0), (0, 0, 0), (8, 0, 0)], [(1, 13, 0)], [(1, 4, 0, 0, 7, 0), (1, 7, 0, 0, 99, 0), (1, 42023, 0, 0, 399, 0)], 0, 0), (20, [(33, 7, 100, 0)])),
  (60, ([(1, 10, 0), (0, 0, 0), (0, 0, 0), (8, 0, 0)], [(0, 0, 400)], [(1, 4, 0, 0, 7, 0), (1, 7, 0, 0, 99, 0), (1, 42023, 0, 0, 399, 0), (1, 0, 0, 0, 399, 0), (2, 0, 42023, 1, 0, 0)], 0, 0), (19, [(33, 7, 100, 0)])),
  (61, ([(1, 10, 0), (0, 0, 0), (0, 0, 0), (0, 0, 0)], [], [(1, 4, 0, 0, 7, 0), (1, 7, 0, 0, 99, 0), (1, 42023, 0, 0, 399, 0), (1, 10, 0, 0, 399, 0), (2, 10, 42023, 1, 0, 0)], 0, 0), (18, [(33, 7, 100, 0)])),
  (62, ([(1, 10, 0), (0, 0, 0), (0, 0, 0), (0, 0, 0)], [(1, 10, 0)], [(1, 4, 0, 0, 7, 0), (1, 7, 0, 0, 99, 0), (1, 42023, 0, 0, 399, 0), (1, 10, 0, 0, 399, 0), (2, 10, 42023, 1, 0, 0)], 0, 0), (17, [(33, 7, 100, 0)])),
  (65, ([(1, 10, 0), (0, 0, 0), (0, 0, 0), (0, 0, 0)], [(1, 1, 0)], [(1, 4, 0, 0, 7, 0), (1, 7, 0, 0, 99, 0), (1, 42023, 0, 0, 399, 0), (1, 10, 0, 0, 399, 0), (2, 10, 42023, 1, 0, 0)], 0, 0), (16, [(33, 7, 100, 0)])),
  (66, ([(1, 10, 0), (0, 0, 0), (0, 0, 0), (0, 0, 0)], [(1, 10, 0), (1, 1, 0)], [(1, 4, 0, 0, 7, 0), (1, 7, 0, 0, 99, 0), (1, 42023, 0, 0, 399, 0), (1, 10, 0, 0, 399, 0), (2, 10, 42023, 1, 0, 0)], 0, 0), (15, [(33, 7, 100, 0)]))]
def kd_X10_crosses_0df2a5_4 : List (Nat × sf_D × sf_M) := [(69, ([(1, 10, 0), (0, 0, 0), (0, 0, 0), (0, 0, 0)], [(1, 7, 0), (1, 1, 0)], [(1, 4, 0, 0, 7, 0), (1, 7, 0, 0, 99, 0), (1, 42023, 0, 0, 399, 0), (1, 10, 0, 0, 399, 0), (2, 10, 42023, 1, 0, 0)], 0, 0), (14, [(33, 7, 100, 0)])),
  (70, ([(1, 10, 0), (0, 0, 0), (0, 0, 0), (0, 0, 0)], [(1, 10, 0), (1, 7, 0), (1, 1, 0)], [(1, 4, 0, 0, 7, 0), (1, 7, 0, 0, 99, 0), (1, 42023, 0, 0, 399, 0), (1, 10, 0, 0, 399, 0), (2, 10, 42023, 1, 0, 0)], 0, 0), (13, [(33, 7, 100, 0)])),
  (73, ([(1, 10, 0), (0, 0, 0), (0, 0, 0), (0, 0, 0)], [(1, 13, 0), (1, 7, 0), (1, 1, 0)], [(1, 4, 0, 0, 7, 0), (1, 7, 0, 0, 99, 0), (1, 42023, 0, 0, 399, 0), (1, 10, 0, 0, 399, 0), (2, 10, 42023, 1, 0, 0)], 0, 0), (12, [(33, 7, 100, 0)])),
  (74, ([(1, 10, 0), (0, 0, 0), (0, 0, 0), (0, 0, 0)], [(0, 0, 0), (1, 13, 0), (1, 7, 0), (1, 1, 0)], [(1, 4, 0, 0, 7, 0), (1, 7, 0, 0, 99, 0), (1, 42023, 0, 0, 399, 0), (1, 10, 0, 0, 399, 0), (1, 9, 0, 1, 1, 0), (2, 10, 42023, 1, 0, 0)], 0, 0), (11, [(33, 7, 100, 0)])),
  (77, ([(1, 10, 0), (0, 0, 0), (0, 0, 0), (0, 0, 0)], [(0, 0, 0)], [(1, 4, 0, 0, 7, 0), (1, 7, 0, 0, 99, 0), (1, 10, 0, 0, 399, 0), (1, 0, 0, -400, 400, 0)], 0, 0), (10, [(33, 7, 100, 0)])),
  (78, ([(1, 10, 0), (0, 0, 0), (0, 0, 0), (0, 0, 0)], [], [(1, 4, 0, 0, 7, 0), (1, 7, 0, 0, 99, 0), (1, 10, 0, 0, 399, 0)], 0, 0), (9, [(33, 7, 100, 0)]))]
def kd_X10_crosses_0df2a5_5 : List (Nat × sf_D × sf_M) := [(79, ([(1, 10, 0), (0, 0, 0), (0, 0, 0), (0, 0, 0)], [(1, 10, 0)], [(1, 4, 0, 0, 7, 0), (1, 7, 0, 0, 99, 0), (1, 10, 0, 0, 399, 0)], 0, 0), (8, [(33, 7, 100, 0)])),
  (82, ([(1, 10, 0), (0, 0, 0), (0, 0, 0), (0, 0, 0)], [(1, 1, 0)], [(1, 4, 0, 0, 7, 0), (1, 7, 0, 0, 99, 0), (1, 10, 0, 0, 399, 0)], 0, 0), (7, [(33, 7, 100, 0)])),
  (85, ([(1, 10, 0), (0, 0, 0), (0, 0, 0), (0, 0, 0)], [(0, 0, 2147483647)], [(1, 4, 0, 0, 7, 0), (1, 7, 0, 0, 99, 0), (1, 10, 0, 0, 399, 0), (1, 0, 0, -2147483648, 2147483647, 0), (1, 6008, 0, -2147483648, 2147483647, 0), (2, 0, 6008, 1, 0, 0)], 0, 0), (6, [(33, 7, 100, 0)])),
  (86, ([(1, 10, 0), (0, 0, 0), (0, 0, 0), (0, 0, 0)], [(0, 0, 0), (0, 0, 2147483647)], [(1, 4, 0, 0, 7, 0), (1, 7, 0, 0, 99, 0), (1, 10, 0, 0, 399, 0), (1, 0, 0, -2147483648, 2147483647, 0), (1, 6008, 0, -2147483648, 2147483647, 0), (1, 3, 0, 1, 1, 0), (2, 0, 6008, 1, 0, 0)], 0, 0), (5, [(33, 7, 100, 0)])),
  (87, ([(1, 10, 0), (0, 0, 0), (0, 0, 0), (0, 0, 0)], [(0, 0, 0), (0, 0, 0), (0, 0, 2147483647)], [(1, 4, 0, 0, 7, 0), (1, 7, 0, 0, 99, 0), (1, 10, 0, 0, 399, 0), (1, 0, 0, -2147483648, 2147483647, 0), (1, 6008, 0, -2147483648, 2147483647, 0), (1, 3, 0, 1, 1, 0), (1, 6, 0, 0, 7, 0), (2, 0, 6008, 1, 0, 0), (2, 6, 4, 1, 0, 0)], 0, 0), (4, [(33, 7, 100, 0)]))]
def kd_X10_crosses_0df2a5_6 : List (Nat × sf_D × sf_M) := [(88, ([(1, 10, 0), (0, 0, 0), (0, 0, 0), (0, 0, 0)], [(0, 0, 0), (0, 0, 2147483647)], [(1, 4, 0, 0, 7, 0), (1, 7, 0, 0, 99, 0), (1, 10, 0, 0, 399, 0), (1, 0, 0, -2147483648, 2147483647, 0), (1, 6008, 0, -2147483648, 2147483647, 0), (1, 3, 0, -2147483648, 2147483647, 0), (2, 0, 6008, 1, 0, 0)], 0, 0), (3, [(33, 7, 100, 0)])),
  (89, ([(1, 10, 0), (0, 0, 0), (0, 0, 0), (0, 0, 0)], [(0, 0, 0)], [(1, 4, 0, 0, 7, 0), (1, 7, 0, 0, 99, 0), (1, 10, 0, 0, 399, 0), (1, 6008, 0, -2147483648, 2147483647, 0), (1, 0, 0, -2147483648, 2147483647, 0)], 0, 0), (2, [(33, 7, 100, 0)])),
  (92, ([(1, 10, 0), (0, 0, 0), (0, 0, 0), (0, 0, 0)], [], [(1, 4, 0, 0, 7, 0), (1, 7, 0, 0, 99, 0), (1, 10, 0, 0, 399, 0), (1, 6008, 0, -2147483648, 2147483647, 0)], 0, 0), (1, [])),
  (93, ([(1, 10, 0), (0, 0, 0), (0, 0, 0), (0, 0, 0)], [(0, 0, 0)], [(1, 4, 0, 0, 7, 0), (1, 7, 0, 0, 99, 0), (1, 10, 0, 0, 399, 0), (1, 6008, 0, -2147483648, 2147483647, 0), (1, 0, 0, 0, 399, 0), (2, 0, 10, 1, 0, 0)], 0, 0), (0, [])),
  (94, ([(1, 10, 0), (0, 0, 0), (0, 0, 0), (0, 0, 0)], [], [(1, 4, 0, 0, 7, 0), (1, 7, 0, 0, 99, 0), (1, 10, 0, 0, 399, 0), (1, 6008, 0, -2147483648, 2147483647, 0)], 0, 0), (0, [(33, 7, 100, 0)]))]
def kd_X10_crosses_0df2a5_7 : List (Nat × sf_D × sf_M) := [(97, ([(1, 10, 0), (0, 0, 0), (0, 0, 0), (0, 0, 0)], [], [(1, 4, 0, 0, 7, 0), (1, 10, 0, 0, 399, 0), (1, 6008, 0, -2147483648, 2147483647, 0), (1, 7, 0, 1, 100, 0)], 0, 0), (31, [(33, 7, 100, 0)])),
  (100, ([(1, 10, 0), (0, 0, 0), (0, 0, 0), (8, 0, 0)], [], [(1, 4, 0, 0, 7, 0), (1, 7, 0, 0, 100, 0), (3, 7, 42023, 400, 400, 100)], 0, 0), (1, [])),
  (101, ([(1, 10, 0), (0, 0, 0), (0, 0, 0), (8, 0, 0)], [(0, 0, 0)], [(1, 4, 0, 0, 7, 0), (1, 7, 0, 0, 100, 0), (1, 0, 0, -1, -1, 0), (3, 7, 42023, 400, 400, 100)], 0, 0), (0, []))]
def kd_X10_crosses_0df2a5 : List (Nat × sf_D × sf_M) := kd_X10_crosses_0df2a5_0 ++ (kd_X10_crosses_0df2a5_1 ++ (kd_X10_crosses_0df2a5_2 ++ (kd_X10_crosses_0df2a5_3 ++ (kd_X10_crosses_0df2a5_4 ++ (kd_X10_crosses_0df2a5_5 ++ (kd_X10_crosses_0df2a5_6 ++ (kd_X10_crosses_0df2a5_7)))))))
set_option maxRecDepth 100000 in
theorem kt_X10_crosses_0df2a5 : sf_chk [kq_X10_isMan_0df2a5, kq_X6_isAlive_a7a9b3, kq_X6_copyFrom_80a60b, kq_X1_passDays_13] kq_X10_crosses_0df2a5 4 kc_X10_crosses_0df2a5 kd_X10_crosses_0df2a5 = true := by decide +kernel
set_option maxRecDepth 100000 in
theorem kl_X10_crosses_0df2a5 : (kc_X10_crosses_0df2a5).map (fun c => (c.1, sf_den ([Z_X10_isMan, Z_X6_isAlive, Z_X6_copyFrom, Z_X1_passDays] : List sf_X) c.2)) = L_X10_crosses Z_X10_isMan Z_X6_isAlive Z_X6_copyFrom Z_X1_passDays := rfl
theorem ct_X10_crosses_0df2a5 : sf_ct kq_X10_crosses_0df2a5 Z_X10_crosses := by
  have h := sf_meth (K := [kq_X10_isMan_0df2a5, kq_X6_isAlive_a7a9b3, kq_X6_copyFrom_80a60b, kq_X1_passDays_13]) (E := [Z_X10_isMan, Z_X6_isAlive, Z_X6_copyFrom, Z_X1_passDays]) (k := kq_X10_crosses_0df2a5) (nL := 4) (C := kc_X10_crosses_0df2a5) (D := kd_X10_crosses_0df2a5) (fun m k hk => match m, hk with
    | 0, hk => (Option.some.inj hk) ▸ ct_X10_isMan_0df2a5
    | 1, hk => (Option.some.inj hk) ▸ ct_X6_isAlive_a7a9b3
    | 2, hk => (Option.some.inj hk) ▸ ct_X6_copyFrom_80a60b
    | 3, hk => (Option.some.inj hk) ▸ ct_X1_passDays_13
    | _ + 4, hk => (by cases hk)) kt_X10_crosses_0df2a5
  rw [kl_X10_crosses_0df2a5] at h
  exact h
def kq_X6_ferryShore_8f34a7 : sf_Q := ([(1, 13, 0)], [], some (0, 0, 0), [(1, 0, 0, 0, 1, 0)], [])
def kc_X6_ferryShore_8f34a7 : List (Nat × sf_I) := [(0, 4, [1, 0]),
  (1, 23, [4, 6, 7]),
  (4, 0, [5, 2]),
  (5, 10, [6]),
  (6, 35, [0, 0])]
def kd_X6_ferryShore_8f34a7 : List (Nat × sf_D × sf_M) := [(0, ([(1, 13, 0)], [], [], 0, 0), (4, [])),
  (1, ([(1, 13, 0)], [(1, 13, 0)], [], 0, 0), (3, [])),
  (4, ([(1, 13, 0)], [(0, 0, 400)], [(1, 0, 0, 0, 400, 0), (1, 42023, 0, -2147483648, 2147483647, 0), (2, 0, 42023, 1, 0, 0)], 0, 0), (2, [])),
  (5, ([(1, 13, 0)], [(0, 0, 0), (0, 0, 400)], [(1, 0, 0, 0, 400, 0), (1, 42023, 0, -2147483648, 2147483647, 0), (1, 3, 0, 2, 2, 0), (2, 0, 42023, 1, 0, 0)], 0, 0), (1, [])),
  (6, ([(1, 13, 0)], [(0, 0, 0)], [(1, 42023, 0, -2147483648, 2147483647, 0), (1, 0, 0, 0, 1, 0)], 0, 0), (0, []))]
set_option maxRecDepth 100000 in
theorem kt_X6_ferryShore_8f34a7 : sf_chk [] kq_X6_ferryShore_8f34a7 1 kc_X6_ferryShore_8f34a7 kd_X6_ferryShore_8f34a7 = true := by decide +kernel
set_option maxRecDepth 100000 in
theorem kl_X6_ferryShore_8f34a7 : (kc_X6_ferryShore_8f34a7).map (fun c => (c.1, sf_den ([] : List sf_X) c.2)) = L_X6_ferryShore := rfl
theorem ct_X6_ferryShore_8f34a7 : sf_ct kq_X6_ferryShore_8f34a7 Z_X6_ferryShore := by
  have h := sf_meth (K := []) (E := []) (k := kq_X6_ferryShore_8f34a7) (nL := 1) (C := kc_X6_ferryShore_8f34a7) (D := kd_X6_ferryShore_8f34a7) (fun m k hk => match m, hk with
    | _ + 0, hk => (by cases hk)) kt_X6_ferryShore_8f34a7
  rw [kl_X6_ferryShore_8f34a7] at h
  exact h
def kq_X10_comes_57b5ea : sf_Q := ([(1, 10, 0), (0, 0, 0), (0, 0, 0)], [], some (0, 0, 0), [(1, 0, 0, -1, 399, 0)], [(1, 2, 3), (13, 7, 9), (100, 0, 5), (101, 0, 5), (156, 0, 11), (157, 0, 11), (158, 0, 11), (159, 0, 11), (160, 0, 7), (161, 0, 7), (162, 0, 63)])
def kc_X10_comes_57b5ea : List (Nat × sf_I) := [(0, 4, [1, 0]),
  (1, 2, [2, 1]),
  (2, 2, [3, 2]),
  (3, 32, [6, 0, 3, 10, 0, 0, 0, 0]),
  (6, 20, [9, 11, 1]),
  (9, 0, [10, -1]),
  (10, 35, [0, 0]),
  (11, 4, [12, 0]),
  (12, 23, [15, 10, 5]),
  (15, 4, [16, 0]),
  (16, 23, [19, 10, 4]),
  (19, 32, [22, 1, 2, 6, 0, 0, 0, 0]),
  (22, 0, [23, 0]),
  (23, 5, [24, 3]),
  (24, 2, [25, 3]),
  (25, 0, [27, 100]),
  (27, 21, [30, 113, 5]),
  (30, 4, [31, 0]),
  (31, 23, [34, 10, 5]),
  (34, 23, [37, 6, 7]),
  (37, 0, [40, 400]),
  (40, 21, [43, 113, 5]),
  (43, 4, [44, 0]),
  (44, 23, [47, 10, 5]),
  (47, 23, [50, 6, 7]),
  (50, 5, [52, 4]),
  (52, 4, [53, 0]),
  (53, 23, [56, 10, 5]),
  (56, 32, [59, 2, 1, 6, 0, 0, 0, 0]),
  (59, 2, [60, 2]),
  (60, 21, [63, 67, 0]),
  (63, 0, [64, 1]),
  (64, 22, [68]),
  (67, 0, [68, 0]),
  (68, 5, [70, 5]),
  (70, 4, [71, 0]),
  (71, 23, [74, 10, 2]),
  (74, 4, [75, 0]),
  (75, 23, [78, 10, 13]),
  (78, 4, [79, 0]),
  (79, 23, [82, 10, 5]),
  (82, 0, [83, 1]),
  (83, 32, [86, 3, 4, 1, 0, 0, 0, 0]),
  (86, 19, [87]),
  (87, 2, [89, 5]),
  (89, 20, [92, 107, 0]),
  (92, 4, [93, 0]),
  (93, 23, [96, 10, 2]),
  (96, 23, [99, 1, 0]),
  (99, 2, [100, 1]),
  (100, 25, [101, 1]),
  (101, 20, [104, 107, 3]),
  (104, 2, [106, 4]),
  (106, 35, [0, 0]),
  (107, 8, [110, 3, 1]),
  (110, 22, [24]),
  (113, 0, [114, -1]),
  (114, 35, [0, 0])]
def kd_X10_comes_57b5ea_0 : List (Nat × sf_D × sf_M) := [(0, ([(1, 10, 0), (0, 0, 0), (0, 0, 0), (8, 0, 0), (8, 0, 0), (8, 0, 0)], [], [], 0, 0), (4250, [])),
  (1, ([(1, 10, 0), (0, 0, 0), (0, 0, 0), (8, 0, 0), (8, 0, 0), (8, 0, 0)], [(1, 10, 0)], [], 0, 0), (4249, [])),
  (2, ([(1, 10, 0), (0, 0, 0), (0, 0, 0), (8, 0, 0), (8, 0, 0), (8, 0, 0)], [(0, 0, 0), (1, 10, 0)], [(1, 3, 0, -2147483648, 2147483647, 0), (1, 4, 0, -2147483648, 2147483647, 0), (2, 3, 4, 1, 0, 0)], 0, 0), (4248, [])),
  (3, ([(1, 10, 0), (0, 0, 0), (0, 0, 0), (8, 0, 0), (8, 0, 0), (8, 0, 0)], [(0, 0, 0), (0, 0, 0), (1, 10, 0)], [(1, 3, 0, -2147483648, 2147483647, 0), (1, 4, 0, -2147483648, 2147483647, 0), (1, 6, 0, -2147483648, 2147483647, 0), (1, 7, 0, -2147483648, 2147483647, 0), (2, 3, 4, 1, 0, 0), (2, 6, 7, 1, 0, 0)], 0, 0), (4247, [])),
  (6, ([(1, 10, 0), (0, 0, 0), (0, 0, 0), (8, 0, 0), (8, 0, 0), (8, 0, 0)], [(0, 0, 0)], [(1, 4, 0, -2147483648, 2147483647, 0), (1, 7, 0, -2147483648, 2147483647, 0), (1, 0, 0, 0, 1, 0), (3, 0, 4, 0, 5, 0), (3, 0, 7, 0, 1, 0)], 0, 0), (4246, [])),
  (9, ([(1, 10, 0), (0, 0, 0), (0, 0, 0), (8, 0, 0), (8, 0, 0), (8, 0, 0)], [], [(1, 4, 0, -2147483648, 2147483647, 0), (1, 7, 0, -2147483648, 2147483647, 0)], 0, 0), (1, [])),
  (10, ([(1, 10, 0), (0, 0, 0), (0, 0, 0), (8, 0, 0), (8, 0, 0), (8, 0, 0)], [(0, 0, 0)], [(1, 4, 0, -2147483648, 2147483647, 0), (1, 7, 0, -2147483648, 2147483647, 0), (1, 0, 0, -1, -1, 0)], 0, 0), (0, [])),
  (11, ([(1, 10, 0), (0, 0, 0), (0, 0, 0), (8, 0, 0), (8, 0, 0), (8, 0, 0)], [], [(1, 4, 0, 0, 5, 0), (1, 7, 0, 0, 1, 0)], 0, 0), (4245, []))]
def kd_X10_comes_57b5ea_1 : List (Nat × sf_D × sf_M) := [(12, ([(1, 10, 0), (0, 0, 0), (0, 0, 0), (8, 0, 0), (8, 0, 0), (8, 0, 0)], [(1, 10, 0)], [(1, 4, 0, 0, 5, 0), (1, 7, 0, 0, 1, 0)], 0, 0), (4244, [])),
  (15, ([(1, 10, 0), (0, 0, 0), (0, 0, 0), (8, 0, 0), (8, 0, 0), (8, 0, 0)], [(1, 13, 0)], [(1, 4, 0, 0, 5, 0), (1, 7, 0, 0, 1, 0)], 0, 0), (4243, [])),
  (16, ([(1, 10, 0), (0, 0, 0), (0, 0, 0), (8, 0, 0), (8, 0, 0), (8, 0, 0)], [(1, 10, 0), (1, 13, 0)], [(1, 4, 0, 0, 5, 0), (1, 7, 0, 0, 1, 0)], 0, 0), (4242, [])),
  (19, ([(1, 10, 0), (0, 0, 0), (0, 0, 0), (8, 0, 0), (8, 0, 0), (8, 0, 0)], [(1, 6, 0), (1, 13, 0)], [(1, 4, 0, 0, 5, 0), (1, 7, 0, 0, 1, 0)], 0, 0), (4241, [])),
  (22, ([(1, 10, 0), (0, 0, 0), (0, 0, 0), (8, 0, 0), (8, 0, 0), (8, 0, 0)], [], [(1, 4, 0, 0, 5, 0), (1, 7, 0, 0, 1, 0)], 0, 0), (4240, [])),
  (23, ([(1, 10, 0), (0, 0, 0), (0, 0, 0), (8, 0, 0), (8, 0, 0), (8, 0, 0)], [(0, 0, 0)], [(1, 4, 0, 0, 5, 0), (1, 7, 0, 0, 1, 0), (1, 0, 0, 0, 0, 0)], 0, 0), (4239, [])),
  (24, ([(1, 10, 0), (0, 0, 0), (0, 0, 0), (0, 0, 0), (8, 0, 0), (8, 0, 0)], [], [(1, 4, 0, 0, 5, 0), (1, 7, 0, 0, 1, 0), (1, 10, 0, 0, 100, 0)], 0, 0), (38, [(42, 10, 100, 0)])),
  (25, ([(1, 10, 0), (0, 0, 0), (0, 0, 0), (0, 0, 0), (8, 0, 0), (8, 0, 0)], [(0, 0, 0)], [(1, 4, 0, 0, 5, 0), (1, 7, 0, 0, 1, 0), (1, 10, 0, 0, 100, 0), (1, 0, 0, 0, 100, 0), (2, 0, 10, 1, 0, 0)], 0, 0), (37, [(42, 10, 100, 0)]))]
def kd_X10_comes_57b5ea_2 : List (Nat × sf_D × sf_M) := [(27, ([(1, 10, 0), (0, 0, 0), (0, 0, 0), (0, 0, 0), (8, 0, 0), (8, 0, 0)], [(0, 0, 0), (0, 0, 0)], [(1, 4, 0, 0, 5, 0), (1, 7, 0, 0, 1, 0), (1, 10, 0, 0, 100, 0), (1, 0, 0, 0, 100, 0), (1, 3, 0, 100, 100, 0), (2, 0, 10, 1, 0, 0)], 0, 0), (36, [(42, 10, 100, 0)])),
  (30, ([(1, 10, 0), (0, 0, 0), (0, 0, 0), (0, 0, 0), (8, 0, 0), (8, 0, 0)], [], [(1, 4, 0, 0, 5, 0), (1, 7, 0, 0, 1, 0), (1, 10, 0, 0, 99, 0)], 0, 0), (35, [(42, 10, 100, 0)])),
  (31, ([(1, 10, 0), (0, 0, 0), (0, 0, 0), (0, 0, 0), (8, 0, 0), (8, 0, 0)], [(1, 10, 0)], [(1, 4, 0, 0, 5, 0), (1, 7, 0, 0, 1, 0), (1, 10, 0, 0, 99, 0)], 0, 0), (34, [(42, 10, 100, 0)])),
  (34, ([(1, 10, 0), (0, 0, 0), (0, 0, 0), (0, 0, 0), (8, 0, 0), (8, 0, 0)], [(1, 13, 0)], [(1, 4, 0, 0, 5, 0), (1, 7, 0, 0, 1, 0), (1, 10, 0, 0, 99, 0)], 0, 0), (33, [(42, 10, 100, 0)])),
  (37, ([(1, 10, 0), (0, 0, 0), (0, 0, 0), (0, 0, 0), (8, 0, 0), (8, 0, 0)], [(0, 0, 400)], [(1, 4, 0, 0, 5, 0), (1, 7, 0, 0, 1, 0), (1, 10, 0, 0, 99, 0), (1, 0, 0, 0, 400, 0), (1, 42023, 0, -2147483648, 2147483647, 0), (2, 0, 42023, 1, 0, 0)], 0, 0), (32, [(42, 10, 100, 0)])),
  (40, ([(1, 10, 0), (0, 0, 0), (0, 0, 0), (0, 0, 0), (8, 0, 0), (8, 0, 0)], [(0, 0, 0), (0, 0, 400)], [(1, 4, 0, 0, 5, 0), (1, 7, 0, 0, 1, 0), (1, 10, 0, 0, 99, 0), (1, 0, 0, 0, 400, 0), (1, 42023, 0, -2147483648, 2147483647, 0), (1, 3, 0, 400, 400, 0), (2, 0, 42023, 1, 0, 0)], 0, 0), (31, [(42, 10, 100, 0)]))]
def kd_X10_comes_57b5ea_3 : List (Nat × sf_D × sf_M) := [(43, ([(1, 10, 0), (0, 0, 0), (0, 0, 0), (0, 0, 0), (8, 0, 0), (8, 0, 0)], [], [(1, 4, 0, 0, 5, 0), (1, 7, 0, 0, 1, 0), (1, 10, 0, 0, 99, 0), (1, 42023, 0, 0, 399, 0)], 0, 0), (30, [(42, 10, 100, 0)])),
  (44, ([(1, 10, 0), (0, 0, 0), (0, 0, 0), (0, 0, 0), (8, 0, 0), (8, 0, 0)], [(1, 10, 0)], [(1, 4, 0, 0, 5, 0), (1, 7, 0, 0, 1, 0), (1, 10, 0, 0, 99, 0), (1, 42023, 0, 0, 399, 0)], 0, 0), (29, [(42, 10, 100, 0)])),
  (47, ([(1, 10, 0), (0, 0, 0), (0, 0, 0), (0, 0, 0), (8, 0, 0), (8, 0, 0)], [(1, 13, 0)], [(1, 4, 0, 0, 5, 0), (1, 7, 0, 0, 1, 0), (1, 10, 0, 0, 99, 0), (1, 42023, 0, 0, 399, 0)], 0, 0), (28, [(42, 10, 100, 0)])),
  (50, ([(1, 10, 0), (0, 0, 0), (0, 0, 0), (0, 0, 0), (8, 0, 0), (8, 0, 0)], [(0, 0, 400)], [(1, 4, 0, 0, 5, 0), (1, 7, 0, 0, 1, 0), (1, 10, 0, 0, 99, 0), (1, 42023, 0, 0, 399, 0), (1, 0, 0, 0, 399, 0), (2, 0, 42023, 1, 0, 0)], 0, 0), (27, [(42, 10, 100, 0)])),
  (52, ([(1, 10, 0), (0, 0, 0), (0, 0, 0), (0, 0, 0), (0, 0, 0), (8, 0, 0)], [], [(1, 4, 0, 0, 5, 0), (1, 7, 0, 0, 1, 0), (1, 10, 0, 0, 99, 0), (1, 42023, 0, 0, 399, 0), (1, 13, 0, 0, 399, 0), (2, 13, 42023, 1, 0, 0)], 0, 0), (26, [(42, 10, 100, 0)]))]
def kd_X10_comes_57b5ea_4 : List (Nat × sf_D × sf_M) := [(53, ([(1, 10, 0), (0, 0, 0), (0, 0, 0), (0, 0, 0), (0, 0, 0), (8, 0, 0)], [(1, 10, 0)], [(1, 4, 0, 0, 5, 0), (1, 7, 0, 0, 1, 0), (1, 10, 0, 0, 99, 0), (1, 42023, 0, 0, 399, 0), (1, 13, 0, 0, 399, 0), (2, 13, 42023, 1, 0, 0)], 0, 0), (25, [(42, 10, 100, 0)])),
  (56, ([(1, 10, 0), (0, 0, 0), (0, 0, 0), (0, 0, 0), (0, 0, 0), (8, 0, 0)], [(1, 13, 0)], [(1, 4, 0, 0, 5, 0), (1, 7, 0, 0, 1, 0), (1, 10, 0, 0, 99, 0), (1, 42023, 0, 0, 399, 0), (1, 13, 0, 0, 399, 0), (2, 13, 42023, 1, 0, 0)], 0, 0), (24, [(42, 10, 100, 0)])),
  (59, ([(1, 10, 0), (0, 0, 0), (0, 0, 0), (0, 0, 0), (0, 0, 0), (8, 0, 0)], [(0, 0, 0)], [(1, 4, 0, 0, 5, 0), (1, 7, 0, 0, 1, 0), (1, 10, 0, 0, 99, 0), (1, 42023, 0, 0, 399, 0), (1, 13, 0, 0, 399, 0), (1, 0, 0, 0, 1, 0), (2, 13, 42023, 1, 0, 0)], 0, 0), (23, [(42, 10, 100, 0)])),
  (60, ([(1, 10, 0), (0, 0, 0), (0, 0, 0), (0, 0, 0), (0, 0, 0), (8, 0, 0)], [(0, 0, 0), (0, 0, 0)], [(1, 4, 0, 0, 5, 0), (1, 7, 0, 0, 1, 0), (1, 10, 0, 0, 99, 0), (1, 42023, 0, 0, 399, 0), (1, 13, 0, 0, 399, 0), (1, 0, 0, 0, 1, 0), (1, 3, 0, 0, 1, 0), (2, 13, 42023, 1, 0, 0), (2, 3, 7, 1, 0, 0)], 0, 0), (22, [(42, 10, 100, 0)]))]
def kd_X10_comes_57b5ea_5 : List (Nat × sf_D × sf_M) := [(63, ([(1, 10, 0), (0, 0, 0), (0, 0, 0), (0, 0, 0), (0, 0, 0), (8, 0, 0)], [], [(1, 4, 0, 0, 5, 0), (1, 7, 0, 0, 1, 0), (1, 10, 0, 0, 99, 0), (1, 42023, 0, 0, 399, 0), (1, 13, 0, 0, 399, 0), (2, 13, 42023, 1, 0, 0)], 0, 0), (21, [(42, 10, 100, 0)])),
  (64, ([(1, 10, 0), (0, 0, 0), (0, 0, 0), (0, 0, 0), (0, 0, 0), (8, 0, 0)], [(0, 0, 0)], [(1, 4, 0, 0, 5, 0), (1, 7, 0, 0, 1, 0), (1, 10, 0, 0, 99, 0), (1, 42023, 0, 0, 399, 0), (1, 13, 0, 0, 399, 0), (1, 0, 0, 1, 1, 0), (2, 13, 42023, 1, 0, 0)], 0, 0), (20, [(42, 10, 100, 0)])),
  (67, ([(1, 10, 0), (0, 0, 0), (0, 0, 0), (0, 0, 0), (0, 0, 0), (8, 0, 0)], [], [(1, 4, 0, 0, 5, 0), (1, 7, 0, 0, 1, 0), (1, 10, 0, 0, 99, 0), (1, 42023, 0, 0, 399, 0), (1, 13, 0, 0, 399, 0), (2, 13, 42023, 1, 0, 0)], 0, 0), (20, [(42, 10, 100, 0)])),
  (68, ([(1, 10, 0), (0, 0, 0), (0, 0, 0), (0, 0, 0), (0, 0, 0), (8, 0, 0)], [(0, 0, 0)], [(1, 4, 0, 0, 5, 0), (1, 7, 0, 0, 1, 0), (1, 10, 0, 0, 99, 0), (1, 42023, 0, 0, 399, 0), (1, 13, 0, 0, 399, 0), (1, 0, 0, 0, 1, 0), (2, 13, 42023, 1, 0, 0)], 0, 0), (19, [(42, 10, 100, 0)]))]
def kd_X10_comes_57b5ea_6 : List (Nat × sf_D × sf_M) := [(70, ([(1, 10, 0), (0, 0, 0), (0, 0, 0), (0, 0, 0), (0, 0, 0), (0, 0, 0)], [], [(1, 4, 0, 0, 5, 0), (1, 7, 0, 0, 1, 0), (1, 10, 0, 0, 99, 0), (1, 42023, 0, 0, 399, 0), (1, 13, 0, 0, 399, 0), (1, 16, 0, 0, 1, 0), (2, 13, 42023, 1, 0, 0)], 0, 0), (18, [(42, 10, 100, 0)])),
  (71, ([(1, 10, 0), (0, 0, 0), (0, 0, 0), (0, 0, 0), (0, 0, 0), (0, 0, 0)], [(1, 10, 0)], [(1, 4, 0, 0, 5, 0), (1, 7, 0, 0, 1, 0), (1, 10, 0, 0, 99, 0), (1, 42023, 0, 0, 399, 0), (1, 13, 0, 0, 399, 0), (1, 16, 0, 0, 1, 0), (2, 13, 42023, 1, 0, 0)], 0, 0), (17, [(42, 10, 100, 0)])),
  (74, ([(1, 10, 0), (0, 0, 0), (0, 0, 0), (0, 0, 0), (0, 0, 0), (0, 0, 0)], [(1, 1, 0)], [(1, 4, 0, 0, 5, 0), (1, 7, 0, 0, 1, 0), (1, 10, 0, 0, 99, 0), (1, 42023, 0, 0, 399, 0), (1, 13, 0, 0, 399, 0), (1, 16, 0, 0, 1, 0), (2, 13, 42023, 1, 0, 0)], 0, 0), (16, [(42, 10, 100, 0)])),
  (75, ([(1, 10, 0), (0, 0, 0), (0, 0, 0), (0, 0, 0), (0, 0, 0), (0, 0, 0)], [(1, 10, 0), (1, 1, 0)], [(1, 4, 0, 0, 5, 0), (1, 7, 0, 0, 1, 0), (1, 10, 0, 0, 99, 0), (1, 42023, 0, 0, 399, 0), (1, 13, 0, 0, 399, 0), (1, 16, 0, 0, 1, 0), (2, 13, 42023, 1, 0, 0)], 0, 0), (15, [(42, 10, 100, 0)]))]
def kd_X10_comes_57b5ea_7 : List (Nat × sf_D × sf_M) := [(78, ([(1, 10, 0), (0, 0, 0), (0, 0, 0), (0, 0, 0), (0, 0, 0), (0, 0, 0)], [(1, 7, 0), (1, 1, 0)], [(1, 4, 0, 0, 5, 0), (1, 7, 0, 0, 1, 0), (1, 10, 0, 0, 99, 0), (1, 42023, 0, 0, 399, 0), (1, 13, 0, 0, 399, 0), (1, 16, 0, 0, 1, 0), (2, 13, 42023, 1, 0, 0)], 0, 0), (14, [(42, 10, 100, 0)])),
  (79, ([(1, 10, 0), (0, 0, 0), (0, 0, 0), (0, 0, 0), (0, 0, 0), (0, 0, 0)], [(1, 10, 0), (1, 7, 0), (1, 1, 0)], [(1, 4, 0, 0, 5, 0), (1, 7, 0, 0, 1, 0), (1, 10, 0, 0, 99, 0), (1, 42023, 0, 0, 399, 0), (1, 13, 0, 0, 399, 0), (1, 16, 0, 0, 1, 0), (2, 13, 42023, 1, 0, 0)], 0, 0), (13, [(42, 10, 100, 0)])),
  (82, ([(1, 10, 0), (0, 0, 0), (0, 0, 0), (0, 0, 0), (0, 0, 0), (0, 0, 0)], [(1, 13, 0), (1, 7, 0), (1, 1, 0)], [(1, 4, 0, 0, 5, 0), (1, 7, 0, 0, 1, 0), (1, 10, 0, 0, 99, 0), (1, 42023, 0, 0, 399, 0), (1, 13, 0, 0, 399, 0), (1, 16, 0, 0, 1, 0), (2, 13, 42023, 1, 0, 0)], 0, 0), (12, [(42, 10, 100, 0)])),
  (83, ([(1, 10, 0), (0, 0, 0), (0, 0, 0), (0, 0, 0), (0, 0, 0), (0, 0, 0)], [(0, 0, 0), (1, 13, 0), (1, 7, 0), (1, 1, 0)], [(1, 4, 0, 0, 5, 0), (1, 7, 0, 0, 1, 0), (1, 10, 0, 0, 99, 0), (1, 42023, 0, 0, 399, 0), (1, 13, 0, 0, 399, 0), (1, 16, 0, 0, 1, 0), (1, 9, 0, 1, 1, 0), (2, 13, 42023, 1, 0, 0)], 0, 0), (11, [(42, 10, 100, 0)]))]
def kd_X10_comes_57b5ea_8 : List (Nat × sf_D × sf_M) := [(86, ([(1, 10, 0), (0, 0, 0), (0, 0, 0), (0, 0, 0), (0, 0, 0), (0, 0, 0)], [(0, 0, 0)], [(1, 4, 0, 0, 5, 0), (1, 7, 0, 0, 1, 0), (1, 10, 0, 0, 99, 0), (1, 13, 0, 0, 399, 0), (1, 16, 0, 0, 1, 0), (1, 0, 0, -400, 400, 0)], 0, 0), (10, [(42, 10, 100, 0)])),
  (87, ([(1, 10, 0), (0, 0, 0), (0, 0, 0), (0, 0, 0), (0, 0, 0), (0, 0, 0)], [], [(1, 4, 0, 0, 5, 0), (1, 7, 0, 0, 1, 0), (1, 10, 0, 0, 99, 0), (1, 13, 0, 0, 399, 0), (1, 16, 0, 0, 1, 0)], 0, 0), (9, [(42, 10, 100, 0)])),
  (89, ([(1, 10, 0), (0, 0, 0), (0, 0, 0), (0, 0, 0), (0, 0, 0), (0, 0, 0)], [(0, 0, 0)], [(1, 4, 0, 0, 5, 0), (1, 7, 0, 0, 1, 0), (1, 10, 0, 0, 99, 0), (1, 13, 0, 0, 399, 0), (1, 16, 0, 0, 1, 0), (1, 0, 0, 0, 1, 0), (2, 0, 16, 1, 0, 0)], 0, 0), (8, [(42, 10, 100, 0)])),
  (92, ([(1, 10, 0), (0, 0, 0), (0, 0, 0), (0, 0, 0), (0, 0, 0), (0, 0, 0)], [], [(1, 4, 0, 0, 5, 0), (1, 7, 0, 0, 1, 0), (1, 10, 0, 0, 99, 0), (1, 13, 0, 0, 399, 0), (1, 16, 0, 1, 1, 0)], 0, 0), (7, [(42, 10, 100, 0)])),
  (93, ([(1, 10, 0), (0, 0, 0), (0, 0, 0), (0, 0, 0), (0, 0, 0), (0, 0, 0)], [(1, 10, 0)], [(1, 4, 0, 0, 5, 0), (1, 7, 0, 0, 1, 0), (1, 10, 0, 0, 99, 0), (1, 13, 0, 0, 399, 0), (1, 16, 0, 1, 1, 0)], 0, 0), (6, [(42, 10, 100, 0)]))]
def kd_X10_comes_57b5ea_9 : List (Nat × sf_D × sf_M) := [(96, ([(1, 10, 0), (0, 0, 0), (0, 0, 0), (0, 0, 0), (0, 0, 0), (0, 0, 0)], [(1, 1, 0)], [(1, 4, 0, 0, 5, 0), (1, 7, 0, 0, 1, 0), (1, 10, 0, 0, 99, 0), (1, 13, 0, 0, 399, 0), (1, 16, 0, 1, 1, 0)], 0, 0), (5, [(42, 10, 100, 0)])),
  (99, ([(1, 10, 0), (0, 0, 0), (0, 0, 0), (0, 0, 0), (0, 0, 0), (0, 0, 0)], [(1, 100, 0)], [(1, 4, 0, 0, 5, 0), (1, 7, 0, 0, 1, 0), (1, 10, 0, 0, 99, 0), (1, 13, 0, 0, 399, 0), (1, 16, 0, 1, 1, 0)], 0, 0), (4, [(42, 10, 100, 0)])),
  (100, ([(1, 10, 0), (0, 0, 0), (0, 0, 0), (0, 0, 0), (0, 0, 0), (0, 0, 0)], [(0, 0, 0), (1, 100, 0)], [(1, 4, 0, 0, 5, 0), (1, 7, 0, 0, 1, 0), (1, 10, 0, 0, 99, 0), (1, 13, 0, 0, 399, 0), (1, 16, 0, 1, 1, 0), (1, 3, 0, 0, 5, 0), (2, 3, 4, 1, 0, 0)], 0, 0), (3, [(42, 10, 100, 0)])),
  (101, ([(1, 10, 0), (0, 0, 0), (0, 0, 0), (0, 0, 0), (0, 0, 0), (0, 0, 0)], [(0, 0, 0)], [(1, 4, 0, 0, 5, 0), (1, 7, 0, 0, 1, 0), (1, 10, 0, 0, 99, 0), (1, 13, 0, 0, 399, 0), (1, 16, 0, 1, 1, 0), (1, 0, 0, -2147483648, 2147483647, 0)], 0, 0), (2, [(42, 10, 100, 0)])),
  (104, ([(1, 10, 0), (0, 0, 0), (0, 0, 0), (0, 0, 0), (0, 0, 0), (0, 0, 0)], [], [(1, 4, 0, 0, 5, 0), (1, 7, 0, 0, 1, 0), (1, 10, 0, 0, 99, 0), (1, 13, 0, 0, 399, 0), (1, 16, 0, 1, 1, 0)], 0, 0), (1, []))]
def kd_X10_comes_57b5ea_10 : List (Nat × sf_D × sf_M) := [(106, ([(1, 10, 0), (0, 0, 0), (0, 0, 0), (0, 0, 0), (0, 0, 0), (0, 0, 0)], [(0, 0, 0)], [(1, 4, 0, 0, 5, 0), (1, 7, 0, 0, 1, 0), (1, 10, 0, 0, 99, 0), (1, 13, 0, 0, 399, 0), (1, 16, 0, 1, 1, 0), (1, 0, 0, 0, 399, 0), (2, 0, 13, 1, 0, 0)], 0, 0), (0, [])),
  (107, ([(1, 10, 0), (0, 0, 0), (0, 0, 0), (0, 0, 0), (0, 0, 0), (0, 0, 0)], [], [(1, 4, 0, 0, 5, 0), (1, 7, 0, 0, 1, 0), (1, 10, 0, 0, 99, 0), (1, 13, 0, 0, 399, 0), (1, 16, 0, 0, 1, 0)], 0, 0), (0, [(42, 10, 100, 0)])),
  (110, ([(1, 10, 0), (0, 0, 0), (0, 0, 0), (0, 0, 0), (0, 0, 0), (0, 0, 0)], [], [(1, 4, 0, 0, 5, 0), (1, 7, 0, 0, 1, 0), (1, 13, 0, 0, 399, 0), (1, 16, 0, 0, 1, 0), (1, 10, 0, 1, 100, 0)], 0, 0), (39, [(42, 10, 100, 0)])),
  (113, ([(1, 10, 0), (0, 0, 0), (0, 0, 0), (0, 0, 0), (8, 0, 0), (8, 0, 0)], [], [(1, 4, 0, 0, 5, 0), (1, 7, 0, 0, 1, 0), (1, 10, 0, 0, 100, 0), (3, 10, 42023, 400, 400, 100)], 0, 0), (1, [])),
  (114, ([(1, 10, 0), (0, 0, 0), (0, 0, 0), (0, 0, 0), (8, 0, 0), (8, 0, 0)], [(0, 0, 0)], [(1, 4, 0, 0, 5, 0), (1, 7, 0, 0, 1, 0), (1, 10, 0, 0, 100, 0), (1, 0, 0, -1, -1, 0), (3, 10, 42023, 400, 400, 100)], 0, 0), (0, []))]
def kd_X10_comes_57b5ea : List (Nat × sf_D × sf_M) := kd_X10_comes_57b5ea_0 ++ (kd_X10_comes_57b5ea_1 ++ (kd_X10_comes_57b5ea_2 ++ (kd_X10_comes_57b5ea_3 ++ (kd_X10_comes_57b5ea_4 ++ (kd_X10_comes_57b5ea_5 ++ (kd_X10_comes_57b5ea_6 ++ (kd_X10_comes_57b5ea_7 ++ (kd_X10_comes_57b5ea_8 ++ (kd_X10_comes_57b5ea_9 ++ (kd_X10_comes_57b5ea_10))))))))))
set_option maxRecDepth 100000 in
theorem kt_X10_comes_57b5ea : sf_chk [kq_X10_isSlot_57b5ea, kq_X6_copyFrom_80a60b, kq_X6_ferryShore_8f34a7, kq_X1_passDays_13] kq_X10_comes_57b5ea 6 kc_X10_comes_57b5ea kd_X10_comes_57b5ea = true := by decide +kernel
set_option maxRecDepth 100000 in
theorem kl_X10_comes_57b5ea : (kc_X10_comes_57b5ea).map (fun c => (c.1, sf_den ([Z_X10_isSlot, Z_X6_copyFrom, Z_X6_ferryShore, Z_X1_passDays] : List sf_X) c.2)) = L_X10_comes Z_X10_isSlot Z_X6_copyFrom Z_X6_ferryShore Z_X1_passDays := rfl
theorem ct_X10_comes_57b5ea : sf_ct kq_X10_comes_57b5ea Z_X10_comes := by
  have h := sf_meth (K := [kq_X10_isSlot_57b5ea, kq_X6_copyFrom_80a60b, kq_X6_ferryShore_8f34a7, kq_X1_passDays_13]) (E := [Z_X10_isSlot, Z_X6_copyFrom, Z_X6_ferryShore, Z_X1_passDays]) (k := kq_X10_comes_57b5ea) (nL := 6) (C := kc_X10_comes_57b5ea) (D := kd_X10_comes_57b5ea) (fun m k hk => match m, hk with
    | 0, hk => (Option.some.inj hk) ▸ ct_X10_isSlot_57b5ea
    | 1, hk => (Option.some.inj hk) ▸ ct_X6_copyFrom_80a60b
    | 2, hk => (Option.some.inj hk) ▸ ct_X6_ferryShore_8f34a7
    | 3, hk => (Option.some.inj hk) ▸ ct_X1_passDays_13
    | _ + 4, hk => (by cases hk)) kt_X10_comes_57b5ea
  rw [kl_X10_comes_57b5ea] at h
  exact h
def kq_X10_isWithin_db750f : sf_Q := ([(0, 0, 0), (0, 0, 0)], [(1, 3, 0, 250, 250, 0)], some (0, 0, 0), [(1, 0, 0, 0, 1, 0), (3, 0, 3, 1, 250, 0)], [])
def kc_X10_isWithin_db750f : List (Nat × sf_I) := [(0, 2, [1, 0]),
  (1, 0, [2, 1]),
  (2, 21, [5, 14, 2]),
  (5, 2, [6, 0]),
  (6, 2, [7, 1]),
  (7, 21, [10, 14, 4]),
  (10, 0, [11, 1]),
  (11, 22, [15]),
  (14, 0, [15, 0]),
  (15, 36, [0, 0])]
def kd_X10_isWithin_db750f_0 : List (Nat × sf_D × sf_M) := [(0, ([(0, 0, 0), (0, 0, 0)], [], [(1, 4, 0, 250, 250, 0)], 0, 0), (8, [])),
  (1, ([(0, 0, 0), (0, 0, 0)], [(0, 0, 0)], [(1, 4, 0, 250, 250, 0), (1, 0, 0, -2147483648, 2147483647, 0), (1, 1, 0, -2147483648, 2147483647, 0), (2, 0, 1, 1, 0, 0)], 0, 0), (7, [])),
  (2, ([(0, 0, 0), (0, 0, 0)], [(0, 0, 0), (0, 0, 0)], [(1, 4, 0, 250, 250, 0), (1, 0, 0, -2147483648, 2147483647, 0), (1, 1, 0, -2147483648, 2147483647, 0), (1, 3, 0, 1, 1, 0), (2, 0, 1, 1, 0, 0)], 0, 0), (6, [])),
  (5, ([(0, 0, 0), (0, 0, 0)], [], [(1, 4, 0, 250, 250, 0), (1, 1, 0, 1, 2147483647, 0)], 0, 0), (5, [])),
  (6, ([(0, 0, 0), (0, 0, 0)], [(0, 0, 0)], [(1, 4, 0, 250, 250, 0), (1, 1, 0, 1, 2147483647, 0), (1, 0, 0, 1, 2147483647, 0), (2, 0, 1, 1, 0, 0)], 0, 0), (4, [])),
  (7, ([(0, 0, 0), (0, 0, 0)], [(0, 0, 0), (0, 0, 0)], [(1, 4, 0, 250, 250, 0), (1, 1, 0, 1, 2147483647, 0), (1, 0, 0, 1, 2147483647, 0), (1, 3, 0, 250, 250, 0), (2, 0, 1, 1, 0, 0), (2, 3, 4, 1, 0, 0)], 0, 0), (3, [])),
  (10, ([(0, 0, 0), (0, 0, 0)], [], [(1, 4, 0, 250, 250, 0), (1, 1, 0, 1, 250, 0)], 0, 0), (2, [])),
  (11, ([(0, 0, 0), (0, 0, 0)], [(0, 0, 0)], [(1, 4, 0, 250, 250, 0), (1, 1, 0, 1, 250, 0), (1, 0, 0, 1, 1, 0)], 0, 0), (1, [])),
  (14, ([(0, 0, 0), (0, 0, 0)], [], [(1, 4, 0, 250, 250, 0), (1, 1, 0, -2147483648, 2147483647, 0)], 0, 0), (1, []))]
def kd_X10_isWithin_db750f_1 : List (Nat × sf_D × sf_M) := [(15, ([(0, 0, 0), (0, 0, 0)], [(0, 0, 0)], [(1, 4, 0, 250, 250, 0), (1, 1, 0, -2147483648, 2147483647, 0), (1, 0, 0, 0, 1, 0), (3, 0, 1, 1, 250, 0)], 0, 0), (0, []))]
def kd_X10_isWithin_db750f : List (Nat × sf_D × sf_M) := kd_X10_isWithin_db750f_0 ++ (kd_X10_isWithin_db750f_1)
set_option maxRecDepth 100000 in
theorem kt_X10_isWithin_db750f : sf_chk [] kq_X10_isWithin_db750f 2 kc_X10_isWithin_db750f kd_X10_isWithin_db750f = true := by decide +kernel
set_option maxRecDepth 100000 in
theorem kl_X10_isWithin_db750f : (kc_X10_isWithin_db750f).map (fun c => (c.1, sf_den ([] : List sf_X) c.2)) = L_X10_isWithin := rfl
theorem ct_X10_isWithin_db750f : sf_ct kq_X10_isWithin_db750f Z_X10_isWithin := by
  have h := sf_meth (K := []) (E := []) (k := kq_X10_isWithin_db750f) (nL := 2) (C := kc_X10_isWithin_db750f) (D := kd_X10_isWithin_db750f) (fun m k hk => match m, hk with
    | _ + 0, hk => (by cases hk)) kt_X10_isWithin_db750f
  rw [kl_X10_isWithin_db750f] at h
  exact h
def kq_X10_foreseeRoom_2d41dd : sf_Q := ([(1, 10, 0), (0, 0, 0), (0, 0, 0)], [(1, 3, 0, 0, 5, 0), (1, 6, 0, 1, 60, 0)], some (0, 0, 0), [], [(1, 2, 3), (13, 7, 9), (100, 0, 5), (101, 0, 5), (129, 0, 59), (156, 0, 11), (157, 0, 11), (158, 0, 11), (159, 0, 11), (160, 0, 7), (161, 0, 7), (162, 0, 63)])
def kc_X10_foreseeRoom_2d41dd : List (Nat × sf_I) := [(0, 4, [1, 0]),
  (1, 23, [4, 10, 5]),
  (4, 4, [5, 0]),
  (5, 23, [8, 10, 4]),
  (8, 32, [11, 0, 2, 6, 0, 0, 0, 0]),
  (11, 0, [12, 0]),
  (12, 5, [13, 3]),
  (13, 0, [14, 0]),
  (14, 5, [16, 4]),
  (16, 2, [18, 4]),
  (18, 2, [19, 2]),
  (19, 21, [22, 84, 5]),
  (22, 2, [24, 4]),
  (24, 0, [26, 60]),
  (26, 21, [29, 84, 5]),
  (29, 4, [30, 0]),
  (30, 23, [33, 10, 5]),
  (33, 23, [36, 6, 7]),
  (36, 0, [39, 400]),
  (39, 21, [42, 84, 5]),
  (42, 4, [43, 0]),
  (43, 23, [46, 10, 2]),
  (46, 4, [47, 0]),
  (47, 23, [50, 10, 13]),
  (50, 4, [51, 0]),
  (51, 23, [54, 10, 5]),
  (54, 0, [55, 1]),
  (55, 32, [58, 1, 4, 1, 0, 0, 0, 0]),
  (58, 19, [59]),
  (59, 4, [60, 0]),
  (60, 23, [63, 10, 11]),
  (63, 2, [65, 4]),
  (65, 4, [66, 0]),
  (66, 23, [69, 10, 2]),
  (69, 23, [72, 1, 1]),
  (72, 2, [73, 1]),
  (73, 25, [74, 1]),
  (74, 28, [75, 1]),
  (75, 8, [78, 3, 1]),
  (78, 8, [81, 4, 1]),
  (81, 22, [16]),
  (84, 2, [85, 3]),
  (85, 35, [0, 0])]
def kd_X10_foreseeRoom_2d41dd_0 : List (Nat × sf_D × sf_M) := [(0, ([(1, 10, 0), (0, 0, 0), (0, 0, 0), (8, 0, 0), (8, 0, 0)], [], [(1, 4, 0, 0, 5, 0), (1, 7, 0, 1, 60, 0)], 0, 0), (2079, [])),
  (1, ([(1, 10, 0), (0, 0, 0), (0, 0, 0), (8, 0, 0), (8, 0, 0)], [(1, 10, 0)], [(1, 4, 0, 0, 5, 0), (1, 7, 0, 1, 60, 0)], 0, 0), (2078, [])),
  (4, ([(1, 10, 0), (0, 0, 0), (0, 0, 0), (8, 0, 0), (8, 0, 0)], [(1, 13, 0)], [(1, 4, 0, 0, 5, 0), (1, 7, 0, 1, 60, 0)], 0, 0), (2077, [])),
  (5, ([(1, 10, 0), (0, 0, 0), (0, 0, 0), (8, 0, 0), (8, 0, 0)], [(1, 10, 0), (1, 13, 0)], [(1, 4, 0, 0, 5, 0), (1, 7, 0, 1, 60, 0)], 0, 0), (2076, [])),
  (8, ([(1, 10, 0), (0, 0, 0), (0, 0, 0), (8, 0, 0), (8, 0, 0)], [(1, 6, 0), (1, 13, 0)], [(1, 4, 0, 0, 5, 0), (1, 7, 0, 1, 60, 0)], 0, 0), (2075, [])),
  (11, ([(1, 10, 0), (0, 0, 0), (0, 0, 0), (8, 0, 0), (8, 0, 0)], [], [(1, 4, 0, 0, 5, 0), (1, 7, 0, 1, 60, 0)], 0, 0), (2074, [])),
  (12, ([(1, 10, 0), (0, 0, 0), (0, 0, 0), (8, 0, 0), (8, 0, 0)], [(0, 0, 0)], [(1, 4, 0, 0, 5, 0), (1, 7, 0, 1, 60, 0), (1, 0, 0, 0, 0, 0)], 0, 0), (2073, [])),
  (13, ([(1, 10, 0), (0, 0, 0), (0, 0, 0), (0, 0, 0), (8, 0, 0)], [], [(1, 4, 0, 0, 5, 0), (1, 7, 0, 1, 60, 0), (1, 10, 0, 0, 0, 0)], 0, 0), (2072, [])),
  (14, ([(1, 10, 0), (0, 0, 0), (0, 0, 0), (0, 0, 0), (8, 0, 0)], [(0, 0, 0)], [(1, 4, 0, 0, 5, 0), (1, 7, 0, 1, 60, 0), (1, 10, 0, 0, 0, 0), (1, 0, 0, 0, 0, 0)], 0, 0), (2071, []))]
def kd_X10_foreseeRoom_2d41dd_1 : List (Nat × sf_D × sf_M) := [(16, ([(1, 10, 0), (0, 0, 0), (0, 0, 0), (0, 0, 0), (0, 0, 0)], [], [(1, 4, 0, 0, 5, 0), (1, 7, 0, 1, 60, 0), (1, 10, 0, -2147483648, 2147483647, 0), (1, 13, 0, 0, 60, 0)], 0, 0), (30, [(34, 13, 60, 0)])),
  (18, ([(1, 10, 0), (0, 0, 0), (0, 0, 0), (0, 0, 0), (0, 0, 0)], [(0, 0, 0)], [(1, 4, 0, 0, 5, 0), (1, 7, 0, 1, 60, 0), (1, 10, 0, -2147483648, 2147483647, 0), (1, 13, 0, 0, 60, 0), (1, 0, 0, 0, 60, 0), (2, 0, 13, 1, 0, 0)], 0, 0), (29, [(34, 13, 60, 0)])),
  (19, ([(1, 10, 0), (0, 0, 0), (0, 0, 0), (0, 0, 0), (0, 0, 0)], [(0, 0, 0), (0, 0, 0)], [(1, 4, 0, 0, 5, 0), (1, 7, 0, 1, 60, 0), (1, 10, 0, -2147483648, 2147483647, 0), (1, 13, 0, 0, 60, 0), (1, 0, 0, 0, 60, 0), (1, 3, 0, 1, 60, 0), (2, 0, 13, 1, 0, 0), (2, 3, 7, 1, 0, 0)], 0, 0), (28, [(34, 13, 60, 0)])),
  (22, ([(1, 10, 0), (0, 0, 0), (0, 0, 0), (0, 0, 0), (0, 0, 0)], [], [(1, 4, 0, 0, 5, 0), (1, 7, 0, 1, 60, 0), (1, 10, 0, -2147483648, 2147483647, 0), (1, 13, 0, 0, 59, 0)], 0, 0), (27, [(34, 13, 60, 0)])),
  (24, ([(1, 10, 0), (0, 0, 0), (0, 0, 0), (0, 0, 0), (0, 0, 0)], [(0, 0, 0)], [(1, 4, 0, 0, 5, 0), (1, 7, 0, 1, 60, 0), (1, 10, 0, -2147483648, 2147483647, 0), (1, 13, 0, 0, 59, 0), (1, 0, 0, 0, 59, 0), (2, 0, 13, 1, 0, 0)], 0, 0), (26, [(34, 13, 60, 0)]))]
def kd_X10_foreseeRoom_2d41dd_2 : List (Nat × sf_D × sf_M) := [(26, ([(1, 10, 0), (0, 0, 0), (0, 0, 0), (0, 0, 0), (0, 0, 0)], [(0, 0, 0), (0, 0, 0)], [(1, 4, 0, 0, 5, 0), (1, 7, 0, 1, 60, 0), (1, 10, 0, -2147483648, 2147483647, 0), (1, 13, 0, 0, 59, 0), (1, 0, 0, 0, 59, 0), (1, 3, 0, 60, 60, 0), (2, 0, 13, 1, 0, 0)], 0, 0), (25, [(34, 13, 60, 0)])),
  (29, ([(1, 10, 0), (0, 0, 0), (0, 0, 0), (0, 0, 0), (0, 0, 0)], [], [(1, 4, 0, 0, 5, 0), (1, 7, 0, 1, 60, 0), (1, 10, 0, -2147483648, 2147483647, 0), (1, 13, 0, 0, 59, 0)], 0, 0), (24, [(34, 13, 60, 0)])),
  (30, ([(1, 10, 0), (0, 0, 0), (0, 0, 0), (0, 0, 0), (0, 0, 0)], [(1, 10, 0)], [(1, 4, 0, 0, 5, 0), (1, 7, 0, 1, 60, 0), (1, 10, 0, -2147483648, 2147483647, 0), (1, 13, 0, 0, 59, 0)], 0, 0), (23, [(34, 13, 60, 0)])),
  (33, ([(1, 10, 0), (0, 0, 0), (0, 0, 0), (0, 0, 0), (0, 0, 0)], [(1, 13, 0)], [(1, 4, 0, 0, 5, 0), (1, 7, 0, 1, 60, 0), (1, 10, 0, -2147483648, 2147483647, 0), (1, 13, 0, 0, 59, 0)], 0, 0), (22, [(34, 13, 60, 0)])),
  (36, ([(1, 10, 0), (0, 0, 0), (0, 0, 0), (0, 0, 0), (0, 0, 0)], [(0, 0, 400)], [(1, 4, 0, 0, 5, 0), (1, 7, 0, 1, 60, 0), (1, 10, 0, -2147483648, 2147483647, 0), (1, 13, 0, 0, 59, 0), (1, 0, 0, 0, 400, 0), (1, 42023, 0, -2147483648, 2147483647, 0), (2, 0, 42023, 1, 0, 0)], 0, 0), (21, [(34, 13, 60, 0)]))]
def kd_X10_foreseeRoom_2d41dd_3 : List (Nat × sf_D × sf_M) := [(39, ([(1, 10, 0), (0, 0, 0), (0, 0, 0), (0, 0, 0), (0, 0, 0)], [(0, 0, 0), (0, 0, 400)], [(1, 4, 0, 0, 5, 0), (1, 7, 0, 1, 60, 0), (1, 10, 0, -2147483648, 2147483647, 0), (1, 13, 0, 0, 59, 0), (1, 0, 0, 0, 400, 0), (1, 42023, 0, -2147483648, 2147483647, 0), (1, 3, 0, 400, 400, 0), (2, 0, 42023, 1, 0, 0)], 0, 0), (20, [(34, 13, 60, 0)])),
  (42, ([(1, 10, 0), (0, 0, 0), (0, 0, 0), (0, 0, 0), (0, 0, 0)], [], [(1, 4, 0, 0, 5, 0), (1, 7, 0, 1, 60, 0), (1, 10, 0, -2147483648, 2147483647, 0), (1, 13, 0, 0, 59, 0), (1, 42023, 0, 0, 399, 0)], 0, 0), (19, [(34, 13, 60, 0)])),
  (43, ([(1, 10, 0), (0, 0, 0), (0, 0, 0), (0, 0, 0), (0, 0, 0)], [(1, 10, 0)], [(1, 4, 0, 0, 5, 0), (1, 7, 0, 1, 60, 0), (1, 10, 0, -2147483648, 2147483647, 0), (1, 13, 0, 0, 59, 0), (1, 42023, 0, 0, 399, 0)], 0, 0), (18, [(34, 13, 60, 0)])),
  (46, ([(1, 10, 0), (0, 0, 0), (0, 0, 0), (0, 0, 0), (0, 0, 0)], [(1, 1, 0)], [(1, 4, 0, 0, 5, 0), (1, 7, 0, 1, 60, 0), (1, 10, 0, -2147483648, 2147483647, 0), (1, 13, 0, 0, 59, 0), (1, 42023, 0, 0, 399, 0)], 0, 0), (17, [(34, 13, 60, 0)])),
  (47, ([(1, 10, 0), (0, 0, 0), (0, 0, 0), (0, 0, 0), (0, 0, 0)], [(1, 10, 0), (1, 1, 0)], [(1, 4, 0, 0, 5, 0), (1, 7, 0, 1, 60, 0), (1, 10, 0, -2147483648, 2147483647, 0), (1, 13, 0, 0, 59, 0), (1, 42023, 0, 0, 399, 0)], 0, 0), (16, [(34, 13, 60, 0)]))]
def kd_X10_foreseeRoom_2d41dd_4 : List (Nat × sf_D × sf_M) := [(50, ([(1, 10, 0), (0, 0, 0), (0, 0, 0), (0, 0, 0), (0, 0, 0)], [(1, 7, 0), (1, 1, 0)], [(1, 4, 0, 0, 5, 0), (1, 7, 0, 1, 60, 0), (1, 10, 0, -2147483648, 2147483647, 0), (1, 13, 0, 0, 59, 0), (1, 42023, 0, 0, 399, 0)], 0, 0), (15, [(34, 13, 60, 0)])),
  (51, ([(1, 10, 0), (0, 0, 0), (0, 0, 0), (0, 0, 0), (0, 0, 0)], [(1, 10, 0), (1, 7, 0), (1, 1, 0)], [(1, 4, 0, 0, 5, 0), (1, 7, 0, 1, 60, 0), (1, 10, 0, -2147483648, 2147483647, 0), (1, 13, 0, 0, 59, 0), (1, 42023, 0, 0, 399, 0)], 0, 0), (14, [(34, 13, 60, 0)])),
  (54, ([(1, 10, 0), (0, 0, 0), (0, 0, 0), (0, 0, 0), (0, 0, 0)], [(1, 13, 0), (1, 7, 0), (1, 1, 0)], [(1, 4, 0, 0, 5, 0), (1, 7, 0, 1, 60, 0), (1, 10, 0, -2147483648, 2147483647, 0), (1, 13, 0, 0, 59, 0), (1, 42023, 0, 0, 399, 0)], 0, 0), (13, [(34, 13, 60, 0)])),
  (55, ([(1, 10, 0), (0, 0, 0), (0, 0, 0), (0, 0, 0), (0, 0, 0)], [(0, 0, 0), (1, 13, 0), (1, 7, 0), (1, 1, 0)], [(1, 4, 0, 0, 5, 0), (1, 7, 0, 1, 60, 0), (1, 10, 0, -2147483648, 2147483647, 0), (1, 13, 0, 0, 59, 0), (1, 42023, 0, 0, 399, 0), (1, 9, 0, 1, 1, 0)], 0, 0), (12, [(34, 13, 60, 0)])),
  (58, ([(1, 10, 0), (0, 0, 0), (0, 0, 0), (0, 0, 0), (0, 0, 0)], [(0, 0, 0)], [(1, 4, 0, 0, 5, 0), (1, 7, 0, 1, 60, 0), (1, 10, 0, -2147483648, 2147483647, 0), (1, 13, 0, 0, 59, 0), (1, 0, 0, -400, 400, 0)], 0, 0), (11, [(34, 13, 60, 0)]))]
def kd_X10_foreseeRoom_2d41dd_5 : List (Nat × sf_D × sf_M) := [(59, ([(1, 10, 0), (0, 0, 0), (0, 0, 0), (0, 0, 0), (0, 0, 0)], [], [(1, 4, 0, 0, 5, 0), (1, 7, 0, 1, 60, 0), (1, 10, 0, -2147483648, 2147483647, 0), (1, 13, 0, 0, 59, 0)], 0, 0), (10, [(34, 13, 60, 0)])),
  (60, ([(1, 10, 0), (0, 0, 0), (0, 0, 0), (0, 0, 0), (0, 0, 0)], [(1, 10, 0)], [(1, 4, 0, 0, 5, 0), (1, 7, 0, 1, 60, 0), (1, 10, 0, -2147483648, 2147483647, 0), (1, 13, 0, 0, 59, 0)], 0, 0), (9, [(34, 13, 60, 0)])),
  (63, ([(1, 10, 0), (0, 0, 0), (0, 0, 0), (0, 0, 0), (0, 0, 0)], [(1, 129, 0)], [(1, 4, 0, 0, 5, 0), (1, 7, 0, 1, 60, 0), (1, 10, 0, -2147483648, 2147483647, 0), (1, 13, 0, 0, 59, 0)], 0, 0), (8, [(34, 13, 60, 0)])),
  (65, ([(1, 10, 0), (0, 0, 0), (0, 0, 0), (0, 0, 0), (0, 0, 0)], [(0, 0, 0), (1, 129, 0)], [(1, 4, 0, 0, 5, 0), (1, 7, 0, 1, 60, 0), (1, 10, 0, -2147483648, 2147483647, 0), (1, 13, 0, 0, 59, 0), (1, 3, 0, 0, 59, 0), (2, 3, 13, 1, 0, 0)], 0, 0), (7, [(34, 13, 60, 0)])),
  (66, ([(1, 10, 0), (0, 0, 0), (0, 0, 0), (0, 0, 0), (0, 0, 0)], [(1, 10, 0), (0, 0, 0), (1, 129, 0)], [(1, 4, 0, 0, 5, 0), (1, 7, 0, 1, 60, 0), (1, 10, 0, -2147483648, 2147483647, 0), (1, 13, 0, 0, 59, 0), (1, 3, 0, 0, 59, 0), (2, 3, 13, 1, 0, 0)], 0, 0), (6, [(34, 13, 60, 0)]))]
def kd_X10_foreseeRoom_2d41dd_6 : List (Nat × sf_D × sf_M) := [(69, ([(1, 10, 0), (0, 0, 0), (0, 0, 0), (0, 0, 0), (0, 0, 0)], [(1, 1, 0), (0, 0, 0), (1, 129, 0)], [(1, 4, 0, 0, 5, 0), (1, 7, 0, 1, 60, 0), (1, 10, 0, -2147483648, 2147483647, 0), (1, 13, 0, 0, 59, 0), (1, 3, 0, 0, 59, 0), (2, 3, 13, 1, 0, 0)], 0, 0), (5, [(34, 13, 60, 0)])),
  (72, ([(1, 10, 0), (0, 0, 0), (0, 0, 0), (0, 0, 0), (0, 0, 0)], [(1, 101, 0), (0, 0, 0), (1, 129, 0)], [(1, 4, 0, 0, 5, 0), (1, 7, 0, 1, 60, 0), (1, 10, 0, -2147483648, 2147483647, 0), (1, 13, 0, 0, 59, 0), (1, 3, 0, 0, 59, 0), (2, 3, 13, 1, 0, 0)], 0, 0), (4, [(34, 13, 60, 0)])),
  (73, ([(1, 10, 0), (0, 0, 0), (0, 0, 0), (0, 0, 0), (0, 0, 0)], [(0, 0, 0), (1, 101, 0), (0, 0, 0), (1, 129, 0)], [(1, 4, 0, 0, 5, 0), (1, 7, 0, 1, 60, 0), (1, 10, 0, -2147483648, 2147483647, 0), (1, 13, 0, 0, 59, 0), (1, 3, 0, 0, 59, 0), (1, 9, 0, 0, 5, 0), (2, 3, 13, 1, 0, 0), (2, 9, 4, 1, 0, 0)], 0, 0), (3, [(34, 13, 60, 0)])),
  (74, ([(1, 10, 0), (0, 0, 0), (0, 0, 0), (0, 0, 0), (0, 0, 0)], [(0, 0, 0), (0, 0, 0), (1, 129, 0)], [(1, 4, 0, 0, 5, 0), (1, 7, 0, 1, 60, 0), (1, 10, 0, -2147483648, 2147483647, 0), (1, 13, 0, 0, 59, 0), (1, 3, 0, 0, 59, 0), (1, 6, 0, -2147483648, 2147483647, 0), (2, 3, 13, 1, 0, 0)], 0, 0), (2, [(34, 13, 60, 0)]))]
def kd_X10_foreseeRoom_2d41dd_7 : List (Nat × sf_D × sf_M) := [(75, ([(1, 10, 0), (0, 0, 0), (0, 0, 0), (0, 0, 0), (0, 0, 0)], [], [(1, 4, 0, 0, 5, 0), (1, 7, 0, 1, 60, 0), (1, 10, 0, -2147483648, 2147483647, 0), (1, 13, 0, 0, 59, 0)], 0, 0), (1, [(34, 13, 60, 0)])),
  (78, ([(1, 10, 0), (0, 0, 0), (0, 0, 0), (0, 0, 0), (0, 0, 0)], [], [(1, 4, 0, 0, 5, 0), (1, 7, 0, 1, 60, 0), (1, 13, 0, 0, 59, 0), (1, 10, 0, -2147483648, 2147483647, 0)], 0, 0), (0, [(34, 13, 60, 0)])),
  (81, ([(1, 10, 0), (0, 0, 0), (0, 0, 0), (0, 0, 0), (0, 0, 0)], [], [(1, 4, 0, 0, 5, 0), (1, 7, 0, 1, 60, 0), (1, 10, 0, -2147483648, 2147483647, 0), (1, 13, 0, 1, 60, 0)], 0, 0), (31, [(34, 13, 60, 0)])),
  (84, ([(1, 10, 0), (0, 0, 0), (0, 0, 0), (0, 0, 0), (0, 0, 0)], [], [(1, 4, 0, 0, 5, 0), (1, 7, 0, 1, 60, 0), (1, 10, 0, -2147483648, 2147483647, 0), (1, 13, 0, 0, 60, 0)], 0, 0), (1, [])),
  (85, ([(1, 10, 0), (0, 0, 0), (0, 0, 0), (0, 0, 0), (0, 0, 0)], [(0, 0, 0)], [(1, 4, 0, 0, 5, 0), (1, 7, 0, 1, 60, 0), (1, 10, 0, -2147483648, 2147483647, 0), (1, 13, 0, 0, 60, 0), (1, 0, 0, -2147483648, 2147483647, 0), (2, 0, 10, 1, 0, 0)], 0, 0), (0, []))]
def kd_X10_foreseeRoom_2d41dd : List (Nat × sf_D × sf_M) := kd_X10_foreseeRoom_2d41dd_0 ++ (kd_X10_foreseeRoom_2d41dd_1 ++ (kd_X10_foreseeRoom_2d41dd_2 ++ (kd_X10_foreseeRoom_2d41dd_3 ++ (kd_X10_foreseeRoom_2d41dd_4 ++ (kd_X10_foreseeRoom_2d41dd_5 ++ (kd_X10_foreseeRoom_2d41dd_6 ++ (kd_X10_foreseeRoom_2d41dd_7)))))))
set_option maxRecDepth 100000 in
theorem kt_X10_foreseeRoom_2d41dd : sf_chk [kq_X6_copyFrom_80a60b, kq_X1_passDays_13] kq_X10_foreseeRoom_2d41dd 5 kc_X10_foreseeRoom_2d41dd kd_X10_foreseeRoom_2d41dd = true := by decide +kernel
set_option maxRecDepth 100000 in
theorem kl_X10_foreseeRoom_2d41dd : (kc_X10_foreseeRoom_2d41dd).map (fun c => (c.1, sf_den ([Z_X6_copyFrom, Z_X1_passDays] : List sf_X) c.2)) = L_X10_foreseeRoom Z_X6_copyFrom Z_X1_passDays := rfl
theorem ct_X10_foreseeRoom_2d41dd : sf_ct kq_X10_foreseeRoom_2d41dd Z_X10_foreseeRoom := by
  have h := sf_meth (K := [kq_X6_copyFrom_80a60b, kq_X1_passDays_13]) (E := [Z_X6_copyFrom, Z_X1_passDays]) (k := kq_X10_foreseeRoom_2d41dd) (nL := 5) (C := kc_X10_foreseeRoom_2d41dd) (D := kd_X10_foreseeRoom_2d41dd) (fun m k hk => match m, hk with
    | 0, hk => (Option.some.inj hk) ▸ ct_X6_copyFrom_80a60b
    | 1, hk => (Option.some.inj hk) ▸ ct_X1_passDays_13
    | _ + 2, hk => (by cases hk)) kt_X10_foreseeRoom_2d41dd
  rw [kl_X10_foreseeRoom_2d41dd] at h
  exact h
def kq_X10_roomTowards_ec6d5f : sf_Q := ([(1, 10, 0), (0, 0, 0), (0, 0, 0)], [(1, 3, 0, 0, 1, 0)], some (0, 0, 0), [], [])
def kc_X10_roomTowards_ec6d5f : List (Nat × sf_I) := [(0, 0, [1, 0]),
  (1, 5, [2, 3]),
  (2, 0, [3, 0]),
  (3, 5, [5, 4]),
  (5, 2, [7, 4]),
  (7, 2, [8, 2]),
  (8, 21, [11, 50, 5]),
  (11, 2, [13, 4]),
  (13, 0, [15, 60]),
  (15, 21, [18, 50, 5]),
  (18, 4, [19, 0]),
  (19, 23, [22, 10, 4]),
  (22, 23, [25, 6, 7]),
  (25, 2, [27, 4]),
  (27, 9, [28, 0]),
  (28, 0, [29, 2]),
  (29, 10, [30]),
  (30, 2, [31, 1]),
  (31, 21, [34, 44, 0]),
  (34, 2, [35, 3]),
  (35, 4, [36, 0]),
  (36, 23, [39, 10, 11]),
  (39, 2, [41, 4]),
  (41, 25, [42, 1]),
  (42, 9, [43, 0]),
  (43, 5, [44, 3]),
  (44, 8, [47, 4, 1]),
  (47, 22, [5]),
  (50, 2, [51, 3]),
  (51, 35, [0, 0])]
def kd_X10_roomTowards_ec6d5f_0 : List (Nat × sf_D × sf_M) := [(0, ([(1, 10, 0), (0, 0, 0), (0, 0, 0), (8, 0, 0), (8, 0, 0)], [], [(1, 4, 0, 0, 1, 0)], 0, 0), (1586, [])),
  (1, ([(1, 10, 0), (0, 0, 0), (0, 0, 0), (8, 0, 0), (8, 0, 0)], [(0, 0, 0)], [(1, 4, 0, 0, 1, 0), (1, 0, 0, 0, 0, 0)], 0, 0), (1585, [])),
  (2, ([(1, 10, 0), (0, 0, 0), (0, 0, 0), (0, 0, 0), (8, 0, 0)], [], [(1, 4, 0, 0, 1, 0), (1, 10, 0, 0, 0, 0)], 0, 0), (1584, [])),
  (3, ([(1, 10, 0), (0, 0, 0), (0, 0, 0), (0, 0, 0), (8, 0, 0)], [(0, 0, 0)], [(1, 4, 0, 0, 1, 0), (1, 10, 0, 0, 0, 0), (1, 0, 0, 0, 0, 0)], 0, 0), (1583, [])),
  (5, ([(1, 10, 0), (0, 0, 0), (0, 0, 0), (0, 0, 0), (0, 0, 0)], [], [(1, 4, 0, 0, 1, 0), (1, 10, 0, -2147483648, 2147483647, 0), (1, 13, 0, 0, 60, 0), (3, 13, 7, 1, 2147483647, 0)], 0, 0), (22, [(26, 13, 60, 0)])),
  (7, ([(1, 10, 0), (0, 0, 0), (0, 0, 0), (0, 0, 0), (0, 0, 0)], [(0, 0, 0)], [(1, 4, 0, 0, 1, 0), (1, 10, 0, -2147483648, 2147483647, 0), (1, 13, 0, 0, 60, 0), (1, 0, 0, 0, 60, 0), (3, 13, 7, 1, 2147483647, 0), (2, 0, 13, 1, 0, 0)], 0, 0), (21, [(26, 13, 60, 0)]))]
def kd_X10_roomTowards_ec6d5f_1 : List (Nat × sf_D × sf_M) := [(8, ([(1, 10, 0), (0, 0, 0), (0, 0, 0), (0, 0, 0), (0, 0, 0)], [(0, 0, 0), (0, 0, 0)], [(1, 4, 0, 0, 1, 0), (1, 10, 0, -2147483648, 2147483647, 0), (1, 13, 0, 0, 60, 0), (1, 0, 0, 0, 60, 0), (1, 3, 0, -2147483648, 2147483647, 0), (1, 7, 0, -2147483648, 2147483647, 0), (3, 13, 7, 1, 2147483647, 0), (2, 0, 13, 1, 0, 0), (2, 3, 7, 1, 0, 0)], 0, 0), (20, [(26, 13, 60, 0)])),
  (11, ([(1, 10, 0), (0, 0, 0), (0, 0, 0), (0, 0, 0), (0, 0, 0)], [], [(1, 4, 0, 0, 1, 0), (1, 10, 0, -2147483648, 2147483647, 0), (1, 13, 0, 0, 60, 0), (1, 7, 0, 1, 2147483647, 0)], 0, 0), (19, [(26, 13, 60, 0)])),
  (13, ([(1, 10, 0), (0, 0, 0), (0, 0, 0), (0, 0, 0), (0, 0, 0)], [(0, 0, 0)], [(1, 4, 0, 0, 1, 0), (1, 10, 0, -2147483648, 2147483647, 0), (1, 13, 0, 0, 60, 0), (1, 7, 0, 1, 2147483647, 0), (1, 0, 0, 0, 60, 0), (2, 0, 13, 1, 0, 0)], 0, 0), (18, [(26, 13, 60, 0)])),
  (15, ([(1, 10, 0), (0, 0, 0), (0, 0, 0), (0, 0, 0), (0, 0, 0)], [(0, 0, 0), (0, 0, 0)], [(1, 4, 0, 0, 1, 0), (1, 10, 0, -2147483648, 2147483647, 0), (1, 13, 0, 0, 60, 0), (1, 7, 0, 1, 2147483647, 0), (1, 0, 0, 0, 60, 0), (1, 3, 0, 60, 60, 0), (2, 0, 13, 1, 0, 0)], 0, 0), (17, [(26, 13, 60, 0)])),
  (18, ([(1, 10, 0), (0, 0, 0), (0, 0, 0), (0, 0, 0), (0, 0, 0)], [], [(1, 4, 0, 0, 1, 0), (1, 10, 0, -2147483648, 2147483647, 0), (1, 13, 0, 0, 59, 0), (1, 7, 0, 1, 2147483647, 0)], 0, 0), (16, [(26, 13, 60, 0)]))]
def kd_X10_roomTowards_ec6d5f_2 : List (Nat × sf_D × sf_M) := [(19, ([(1, 10, 0), (0, 0, 0), (0, 0, 0), (0, 0, 0), (0, 0, 0)], [(1, 10, 0)], [(1, 4, 0, 0, 1, 0), (1, 10, 0, -2147483648, 2147483647, 0), (1, 13, 0, 0, 59, 0), (1, 7, 0, 1, 2147483647, 0)], 0, 0), (15, [(26, 13, 60, 0)])),
  (22, ([(1, 10, 0), (0, 0, 0), (0, 0, 0), (0, 0, 0), (0, 0, 0)], [(1, 6, 0)], [(1, 4, 0, 0, 1, 0), (1, 10, 0, -2147483648, 2147483647, 0), (1, 13, 0, 0, 59, 0), (1, 7, 0, 1, 2147483647, 0)], 0, 0), (14, [(26, 13, 60, 0)])),
  (25, ([(1, 10, 0), (0, 0, 0), (0, 0, 0), (0, 0, 0), (0, 0, 0)], [(0, 0, 400)], [(1, 4, 0, 0, 1, 0), (1, 10, 0, -2147483648, 2147483647, 0), (1, 13, 0, 0, 59, 0), (1, 7, 0, 1, 2147483647, 0), (1, 0, 0, 0, 400, 0), (1, 21023, 0, -2147483648, 2147483647, 0), (2, 0, 21023, 1, 0, 0)], 0, 0), (13, [(26, 13, 60, 0)])),
  (27, ([(1, 10, 0), (0, 0, 0), (0, 0, 0), (0, 0, 0), (0, 0, 0)], [(0, 0, 0), (0, 0, 400)], [(1, 4, 0, 0, 1, 0), (1, 10, 0, -2147483648, 2147483647, 0), (1, 13, 0, 0, 59, 0), (1, 7, 0, 1, 2147483647, 0), (1, 0, 0, 0, 400, 0), (1, 21023, 0, -2147483648, 2147483647, 0), (1, 3, 0, 0, 59, 0), (2, 0, 21023, 1, 0, 0), (2, 3, 13, 1, 0, 0)], 0, 0), (12, [(26, 13, 60, 0)])),
  (28, ([(1, 10, 0), (0, 0, 0), (0, 0, 0), (0, 0, 0), (0, 0, 0)], [(0, 0, 0)], [(1, 4, 0, 0, 1, 0), (1, 10, 0, -2147483648, 2147483647, 0), (1, 13, 0, 0, 59, 0), (1, 7, 0, 1, 2147483647, 0), (1, 21023, 0, -2147483648, 2147483647, 0), (1, 0, 0, 0, 459, 0)], 0, 0), (11, [(26, 13, 60, 0)]))]
def kd_X10_roomTowards_ec6d5f_3 : List (Nat × sf_D × sf_M) := [(29, ([(1, 10, 0), (0, 0, 0), (0, 0, 0), (0, 0, 0), (0, 0, 0)], [(0, 0, 0), (0, 0, 0)], [(1, 4, 0, 0, 1, 0), (1, 10, 0, -2147483648, 2147483647, 0), (1, 13, 0, 0, 59, 0), (1, 7, 0, 1, 2147483647, 0), (1, 21023, 0, -2147483648, 2147483647, 0), (1, 0, 0, 0, 459, 0), (1, 3, 0, 2, 2, 0)], 0, 0), (10, [(26, 13, 60, 0)])),
  (30, ([(1, 10, 0), (0, 0, 0), (0, 0, 0), (0, 0, 0), (0, 0, 0)], [(0, 0, 0)], [(1, 4, 0, 0, 1, 0), (1, 10, 0, -2147483648, 2147483647, 0), (1, 13, 0, 0, 59, 0), (1, 7, 0, 1, 2147483647, 0), (1, 21023, 0, -2147483648, 2147483647, 0), (1, 0, 0, 0, 1, 0)], 0, 0), (9, [(26, 13, 60, 0)])),
  (31, ([(1, 10, 0), (0, 0, 0), (0, 0, 0), (0, 0, 0), (0, 0, 0)], [(0, 0, 0), (0, 0, 0)], [(1, 4, 0, 0, 1, 0), (1, 10, 0, -2147483648, 2147483647, 0), (1, 13, 0, 0, 59, 0), (1, 7, 0, 1, 2147483647, 0), (1, 21023, 0, -2147483648, 2147483647, 0), (1, 0, 0, 0, 1, 0), (1, 3, 0, 0, 1, 0), (2, 3, 4, 1, 0, 0)], 0, 0), (8, [(26, 13, 60, 0)])),
  (34, ([(1, 10, 0), (0, 0, 0), (0, 0, 0), (0, 0, 0), (0, 0, 0)], [], [(1, 4, 0, 0, 1, 0), (1, 10, 0, -2147483648, 2147483647, 0), (1, 13, 0, 0, 59, 0), (1, 7, 0, 1, 2147483647, 0), (1, 21023, 0, -2147483648, 2147483647, 0)], 0, 0), (7, [(26, 13, 60, 0)]))]
def kd_X10_roomTowards_ec6d5f_4 : List (Nat × sf_D × sf_M) := [(35, ([(1, 10, 0), (0, 0, 0), (0, 0, 0), (0, 0, 0), (0, 0, 0)], [(0, 0, 0)], [(1, 4, 0, 0, 1, 0), (1, 10, 0, -2147483648, 2147483647, 0), (1, 13, 0, 0, 59, 0), (1, 7, 0, 1, 2147483647, 0), (1, 21023, 0, -2147483648, 2147483647, 0), (1, 0, 0, -2147483648, 2147483647, 0), (2, 0, 10, 1, 0, 0)], 0, 0), (6, [(26, 13, 60, 0)])),
  (36, ([(1, 10, 0), (0, 0, 0), (0, 0, 0), (0, 0, 0), (0, 0, 0)], [(1, 10, 0), (0, 0, 0)], [(1, 4, 0, 0, 1, 0), (1, 10, 0, -2147483648, 2147483647, 0), (1, 13, 0, 0, 59, 0), (1, 7, 0, 1, 2147483647, 0), (1, 21023, 0, -2147483648, 2147483647, 0), (1, 0, 0, -2147483648, 2147483647, 0), (2, 0, 10, 1, 0, 0)], 0, 0), (5, [(26, 13, 60, 0)])),
  (39, ([(1, 10, 0), (0, 0, 0), (0, 0, 0), (0, 0, 0), (0, 0, 0)], [(1, 129, 0), (0, 0, 0)], [(1, 4, 0, 0, 1, 0), (1, 10, 0, -2147483648, 2147483647, 0), (1, 13, 0, 0, 59, 0), (1, 7, 0, 1, 2147483647, 0), (1, 21023, 0, -2147483648, 2147483647, 0), (1, 0, 0, -2147483648, 2147483647, 0), (2, 0, 10, 1, 0, 0)], 0, 0), (4, [(26, 13, 60, 0)])),
  (41, ([(1, 10, 0), (0, 0, 0), (0, 0, 0), (0, 0, 0), (0, 0, 0)], [(0, 0, 0), (1, 129, 0), (0, 0, 0)], [(1, 4, 0, 0, 1, 0), (1, 10, 0, -2147483648, 2147483647, 0), (1, 13, 0, 0, 59, 0), (1, 7, 0, 1, 2147483647, 0), (1, 21023, 0, -2147483648, 2147483647, 0), (1, 0, 0, -2147483648, 2147483647, 0), (1, 6, 0, 0, 59, 0), (2, 0, 10, 1, 0, 0), (2, 6, 13, 1, 0, 0)], 0, 0), (3, [(26, 13, 60, 0)]))]
def kd_X10_roomTowards_ec6d5f_5 : List (Nat × sf_D × sf_M) := [(42, ([(1, 10, 0), (0, 0, 0), (0, 0, 0), (0, 0, 0), (0, 0, 0)], [(0, 0, 0), (0, 0, 0)], [(1, 4, 0, 0, 1, 0), (1, 10, 0, -2147483648, 2147483647, 0), (1, 13, 0, 0, 59, 0), (1, 7, 0, 1, 2147483647, 0), (1, 21023, 0, -2147483648, 2147483647, 0), (1, 0, 0, -2147483648, 2147483647, 0), (1, 3, 0, -2147483648, 2147483647, 0), (2, 0, 10, 1, 0, 0)], 0, 0), (2, [(26, 13, 60, 0)])),
  (43, ([(1, 10, 0), (0, 0, 0), (0, 0, 0), (0, 0, 0), (0, 0, 0)], [(0, 0, 0)], [(1, 4, 0, 0, 1, 0), (1, 10, 0, -2147483648, 2147483647, 0), (1, 13, 0, 0, 59, 0), (1, 7, 0, 1, 2147483647, 0), (1, 21023, 0, -2147483648, 2147483647, 0), (1, 0, 0, -2147483648, 2147483647, 0)], 0, 0), (1, [(26, 13, 60, 0)])),
  (44, ([(1, 10, 0), (0, 0, 0), (0, 0, 0), (0, 0, 0), (0, 0, 0)], [], [(1, 4, 0, 0, 1, 0), (1, 10, 0, -2147483648, 2147483647, 0), (1, 13, 0, 0, 59, 0), (1, 7, 0, 1, 2147483647, 0), (1, 21023, 0, -2147483648, 2147483647, 0)], 0, 0), (0, [(26, 13, 60, 0)])),
  (47, ([(1, 10, 0), (0, 0, 0), (0, 0, 0), (0, 0, 0), (0, 0, 0)], [], [(1, 4, 0, 0, 1, 0), (1, 10, 0, -2147483648, 2147483647, 0), (1, 7, 0, 1, 2147483647, 0), (1, 21023, 0, -2147483648, 2147483647, 0), (1, 13, 0, 1, 60, 0)], 0, 0), (23, [(26, 13, 60, 0)])),
  (50, ([(1, 10, 0), (0, 0, 0), (0, 0, 0), (0, 0, 0), (0, 0, 0)], [], [(1, 4, 0, 0, 1, 0), (1, 10, 0, -2147483648, 2147483647, 0), (1, 13, 0, 0, 60, 0), (1, 7, 0, -2147483648, 2147483647, 0), (3, 13, 7, 1, 2147483647, 0)], 0, 0), (1, []))]
def kd_X10_roomTowards_ec6d5f_6 : List (Nat × sf_D × sf_M) := [(51, ([(1, 10, 0), (0, 0, 0), (0, 0, 0), (0, 0, 0), (0, 0, 0)], [(0, 0, 0)], [(1, 4, 0, 0, 1, 0), (1, 10, 0, -2147483648, 2147483647, 0), (1, 13, 0, 0, 60, 0), (1, 7, 0, -2147483648, 2147483647, 0), (1, 0, 0, -2147483648, 2147483647, 0), (3, 13, 7, 1, 2147483647, 0), (2, 0, 10, 1, 0, 0)], 0, 0), (0, []))]
def kd_X10_roomTowards_ec6d5f : List (Nat × sf_D × sf_M) := kd_X10_roomTowards_ec6d5f_0 ++ (kd_X10_roomTowards_ec6d5f_1 ++ (kd_X10_roomTowards_ec6d5f_2 ++ (kd_X10_roomTowards_ec6d5f_3 ++ (kd_X10_roomTowards_ec6d5f_4 ++ (kd_X10_roomTowards_ec6d5f_5 ++ (kd_X10_roomTowards_ec6d5f_6))))))
set_option maxRecDepth 100000 in
theorem kt_X10_roomTowards_ec6d5f : sf_chk [] kq_X10_roomTowards_ec6d5f 5 kc_X10_roomTowards_ec6d5f kd_X10_roomTowards_ec6d5f = true := by decide +kernel
set_option maxRecDepth 100000 in
theorem kl_X10_roomTowards_ec6d5f : (kc_X10_roomTowards_ec6d5f).map (fun c => (c.1, sf_den ([] : List sf_X) c.2)) = L_X10_roomTowards := rfl
theorem ct_X10_roomTowards_ec6d5f : sf_ct kq_X10_roomTowards_ec6d5f Z_X10_roomTowards := by
  have h := sf_meth (K := []) (E := []) (k := kq_X10_roomTowards_ec6d5f) (nL := 5) (C := kc_X10_roomTowards_ec6d5f) (D := kd_X10_roomTowards_ec6d5f) (fun m k hk => match m, hk with
    | _ + 0, hk => (by cases hk)) kt_X10_roomTowards_ec6d5f
  rw [kl_X10_roomTowards_ec6d5f] at h
  exact h
def kq_X1_amountMoved_e91f76 : sf_Q := ([(0, 0, 0), (0, 0, 0), (0, 0, 0)], [], some (0, 0, 0), [(1, 0, 0, 0, 2147483647, 0)], [])
def kc_X1_amountMoved_e91f76 : List (Nat × sf_I) := [(0, 0, [1, 0]),
  (1, 2, [2, 0]),
  (2, 2, [3, 1]),
  (3, 2, [4, 2]),
  (4, 33, [7, 1, 0, 0]),
  (7, 33, [10, 1, 0, 0]),
  (10, 33, [13, 0, 0, 0]),
  (13, 35, [0, 0])]
def kd_X1_amountMoved_e91f76_0 : List (Nat × sf_D × sf_M) := [(0, ([(0, 0, 0), (0, 0, 0), (0, 0, 0)], [], [], 0, 0), (7, [])),
  (1, ([(0, 0, 0), (0, 0, 0), (0, 0, 0)], [(0, 0, 0)], [(1, 0, 0, 0, 0, 0)], 0, 0), (6, [])),
  (2, ([(0, 0, 0), (0, 0, 0), (0, 0, 0)], [(0, 0, 0), (0, 0, 0)], [(1, 0, 0, 0, 0, 0), (1, 3, 0, -2147483648, 2147483647, 0), (1, 1, 0, -2147483648, 2147483647, 0), (2, 3, 1, 1, 0, 0)], 0, 0), (5, [])),
  (3, ([(0, 0, 0), (0, 0, 0), (0, 0, 0)], [(0, 0, 0), (0, 0, 0), (0, 0, 0)], [(1, 0, 0, 0, 0, 0), (1, 3, 0, -2147483648, 2147483647, 0), (1, 1, 0, -2147483648, 2147483647, 0), (1, 6, 0, -2147483648, 2147483647, 0), (1, 4, 0, -2147483648, 2147483647, 0), (2, 3, 1, 1, 0, 0), (2, 6, 4, 1, 0, 0)], 0, 0), (4, [])),
  (4, ([(0, 0, 0), (0, 0, 0), (0, 0, 0)], [(0, 0, 0), (0, 0, 0), (0, 0, 0), (0, 0, 0)], [(1, 0, 0, 0, 0, 0), (1, 3, 0, -2147483648, 2147483647, 0), (1, 1, 0, -2147483648, 2147483647, 0), (1, 6, 0, -2147483648, 2147483647, 0), (1, 4, 0, -2147483648, 2147483647, 0), (1, 9, 0, -2147483648, 2147483647, 0), (1, 7, 0, -2147483648, 2147483647, 0), (2, 3, 1, 1, 0, 0), (2, 6, 4, 1, 0, 0), (2, 9, 7, 1, 0, 0)], 0, 0), (3, [])),
  (7, ([(0, 0, 0), (0, 0, 0), (0, 0, 0)], [(0, 0, 0), (0, 0, 0), (0, 0, 0)], [(1, 0, 0, 0, 0, 0), (1, 3, 0, -2147483648, 2147483647, 0), (1, 1, 0, -2147483648, 2147483647, 0), (1, 4, 0, -2147483648, 2147483647, 0), (1, 7, 0, -2147483648, 2147483647, 0), (1, 6, 0, -2147483648, 2147483647, 0), (2, 3, 1, 1, 0, 0)], 0, 0), (2, []))]
def kd_X1_amountMoved_e91f76_1 : List (Nat × sf_D × sf_M) := [(10, ([(0, 0, 0), (0, 0, 0), (0, 0, 0)], [(0, 0, 0), (0, 0, 0)], [(1, 0, 0, 0, 0, 0), (1, 1, 0, -2147483648, 2147483647, 0), (1, 4, 0, -2147483648, 2147483647, 0), (1, 7, 0, -2147483648, 2147483647, 0), (1, 3, 0, -2147483648, 2147483647, 0)], 0, 0), (1, [])),
  (13, ([(0, 0, 0), (0, 0, 0), (0, 0, 0)], [(0, 0, 0)], [(1, 1, 0, -2147483648, 2147483647, 0), (1, 4, 0, -2147483648, 2147483647, 0), (1, 7, 0, -2147483648, 2147483647, 0), (1, 0, 0, 0, 2147483647, 0)], 0, 0), (0, []))]
def kd_X1_amountMoved_e91f76 : List (Nat × sf_D × sf_M) := kd_X1_amountMoved_e91f76_0 ++ (kd_X1_amountMoved_e91f76_1)
set_option maxRecDepth 100000 in
theorem kt_X1_amountMoved_e91f76 : sf_chk [] kq_X1_amountMoved_e91f76 3 kc_X1_amountMoved_e91f76 kd_X1_amountMoved_e91f76 = true := by decide +kernel
set_option maxRecDepth 100000 in
theorem kl_X1_amountMoved_e91f76 : (kc_X1_amountMoved_e91f76).map (fun c => (c.1, sf_den ([] : List sf_X) c.2)) = L_X1_amountMoved := rfl
theorem ct_X1_amountMoved_e91f76 : sf_ct kq_X1_amountMoved_e91f76 Z_X1_amountMoved := by
  have h := sf_meth (K := []) (E := []) (k := kq_X1_amountMoved_e91f76) (nL := 3) (C := kc_X1_amountMoved_e91f76) (D := kd_X1_amountMoved_e91f76) (fun m k hk => match m, hk with
    | _ + 0, hk => (by cases hk)) kt_X1_amountMoved_e91f76
  rw [kl_X1_amountMoved_e91f76] at h
  exact h
def kq_X1_amountMoved_427f00 : sf_Q := ([(0, 0, 0), (0, 0, 0), (0, 0, 0)], [(1, 0, 0, 0, 2147483647, 0)], some (0, 0, 0), [(1, 0, 0, 0, 2147483647, 0)], [])
def kc_X1_amountMoved_427f00 : List (Nat × sf_I) := [(0, 0, [1, 0]),
  (1, 2, [2, 0]),
  (2, 2, [3, 1]),
  (3, 2, [4, 2]),
  (4, 33, [7, 1, 0, 0]),
  (7, 33, [10, 1, 0, 0]),
  (10, 33, [13, 0, 0, 0]),
  (13, 35, [0, 0])]
def kd_X1_amountMoved_427f00_0 : List (Nat × sf_D × sf_M) := [(0, ([(0, 0, 0), (0, 0, 0), (0, 0, 0)], [], [(1, 1, 0, 0, 2147483647, 0)], 0, 0), (7, [])),
  (1, ([(0, 0, 0), (0, 0, 0), (0, 0, 0)], [(0, 0, 0)], [(1, 1, 0, 0, 2147483647, 0), (1, 0, 0, 0, 0, 0)], 0, 0), (6, [])),
  (2, ([(0, 0, 0), (0, 0, 0), (0, 0, 0)], [(0, 0, 0), (0, 0, 0)], [(1, 1, 0, 0, 2147483647, 0), (1, 0, 0, 0, 0, 0), (1, 3, 0, 0, 2147483647, 0), (2, 3, 1, 1, 0, 0)], 0, 0), (5, [])),
  (3, ([(0, 0, 0), (0, 0, 0), (0, 0, 0)], [(0, 0, 0), (0, 0, 0), (0, 0, 0)], [(1, 1, 0, 0, 2147483647, 0), (1, 0, 0, 0, 0, 0), (1, 3, 0, 0, 2147483647, 0), (1, 6, 0, -2147483648, 2147483647, 0), (1, 4, 0, -2147483648, 2147483647, 0), (2, 3, 1, 1, 0, 0), (2, 6, 4, 1, 0, 0)], 0, 0), (4, [])),
  (4, ([(0, 0, 0), (0, 0, 0), (0, 0, 0)], [(0, 0, 0), (0, 0, 0), (0, 0, 0), (0, 0, 0)], [(1, 1, 0, 0, 2147483647, 0), (1, 0, 0, 0, 0, 0), (1, 3, 0, 0, 2147483647, 0), (1, 6, 0, -2147483648, 2147483647, 0), (1, 4, 0, -2147483648, 2147483647, 0), (1, 9, 0, -2147483648, 2147483647, 0), (1, 7, 0, -2147483648, 2147483647, 0), (2, 3, 1, 1, 0, 0), (2, 6, 4, 1, 0, 0), (2, 9, 7, 1, 0, 0)], 0, 0), (3, [])),
  (7, ([(0, 0, 0), (0, 0, 0), (0, 0, 0)], [(0, 0, 0), (0, 0, 0), (0, 0, 0)], [(1, 1, 0, 0, 2147483647, 0), (1, 0, 0, 0, 0, 0), (1, 3, 0, 0, 2147483647, 0), (1, 4, 0, -2147483648, 2147483647, 0), (1, 7, 0, -2147483648, 2147483647, 0), (1, 6, 0, -2147483648, 2147483647, 0), (2, 3, 1, 1, 0, 0)], 0, 0), (2, []))]
def kd_X1_amountMoved_427f00_1 : List (Nat × sf_D × sf_M) := [(10, ([(0, 0, 0), (0, 0, 0), (0, 0, 0)], [(0, 0, 0), (0, 0, 0)], [(1, 1, 0, 0, 2147483647, 0), (1, 0, 0, 0, 0, 0), (1, 4, 0, -2147483648, 2147483647, 0), (1, 7, 0, -2147483648, 2147483647, 0), (1, 3, 0, -2147483648, 2147483647, 0)], 0, 0), (1, [])),
  (13, ([(0, 0, 0), (0, 0, 0), (0, 0, 0)], [(0, 0, 0)], [(1, 1, 0, 0, 2147483647, 0), (1, 4, 0, -2147483648, 2147483647, 0), (1, 7, 0, -2147483648, 2147483647, 0), (1, 0, 0, 0, 2147483647, 0)], 0, 0), (0, []))]
def kd_X1_amountMoved_427f00 : List (Nat × sf_D × sf_M) := kd_X1_amountMoved_427f00_0 ++ (kd_X1_amountMoved_427f00_1)
set_option maxRecDepth 100000 in
theorem kt_X1_amountMoved_427f00 : sf_chk [] kq_X1_amountMoved_427f00 3 kc_X1_amountMoved_427f00 kd_X1_amountMoved_427f00 = true := by decide +kernel
set_option maxRecDepth 100000 in
theorem kl_X1_amountMoved_427f00 : (kc_X1_amountMoved_427f00).map (fun c => (c.1, sf_den ([] : List sf_X) c.2)) = L_X1_amountMoved := rfl
theorem ct_X1_amountMoved_427f00 : sf_ct kq_X1_amountMoved_427f00 Z_X1_amountMoved := by
  have h := sf_meth (K := []) (E := []) (k := kq_X1_amountMoved_427f00) (nL := 3) (C := kc_X1_amountMoved_427f00) (D := kd_X1_amountMoved_427f00) (fun m k hk => match m, hk with
    | _ + 0, hk => (by cases hk)) kt_X1_amountMoved_427f00
  rw [kl_X1_amountMoved_427f00] at h
  exact h
def kq_X7_leftAfter_add0c2 : sf_Q := ([(1, 7, 0), (0, 0, 0), (0, 0, 0)], [(1, 3, 0, 0, 11, 0)], some (0, 0, 0), [], [])
def kc_X7_leftAfter_add0c2 : List (Nat × sf_I) := [(0, 0, [3, 999]),
  (3, 2, [4, 2]),
  (4, 4, [5, 0]),
  (5, 23, [8, 7, 3]),
  (8, 0, [10, 36]),
  (10, 2, [11, 1]),
  (11, 9, [12, 0]),
  (12, 25, [13, 1]),
  (13, 9, [14, 0]),
  (14, 33, [17, 1, 0, 0]),
  (17, 5, [18, 3]),
  (18, 2, [19, 3]),
  (19, 4, [20, 0]),
  (20, 23, [23, 7, 3]),
  (23, 0, [25, 24]),
  (25, 2, [26, 1]),
  (26, 9, [27, 0]),
  (27, 25, [28, 1]),
  (28, 9, [29, 1]),
  (29, 35, [0, 0])]
def kd_X7_leftAfter_add0c2_0 : List (Nat × sf_D × sf_M) := [(0, ([(1, 7, 0), (0, 0, 0), (0, 0, 0), (8, 0, 0)], [], [(1, 4, 0, 0, 11, 0)], 0, 0), (19, [])),
  (3, ([(1, 7, 0), (0, 0, 0), (0, 0, 0), (8, 0, 0)], [(0, 0, 0)], [(1, 4, 0, 0, 11, 0), (1, 0, 0, 999, 999, 0)], 0, 0), (18, [])),
  (4, ([(1, 7, 0), (0, 0, 0), (0, 0, 0), (8, 0, 0)], [(0, 0, 0), (0, 0, 0)], [(1, 4, 0, 0, 11, 0), (1, 0, 0, 999, 999, 0), (1, 3, 0, -2147483648, 2147483647, 0), (1, 7, 0, -2147483648, 2147483647, 0), (2, 3, 7, 1, 0, 0)], 0, 0), (17, [])),
  (5, ([(1, 7, 0), (0, 0, 0), (0, 0, 0), (8, 0, 0)], [(1, 7, 0), (0, 0, 0), (0, 0, 0)], [(1, 4, 0, 0, 11, 0), (1, 0, 0, 999, 999, 0), (1, 3, 0, -2147483648, 2147483647, 0), (1, 7, 0, -2147483648, 2147483647, 0), (2, 3, 7, 1, 0, 0)], 0, 0), (16, [])),
  (8, ([(1, 7, 0), (0, 0, 0), (0, 0, 0), (8, 0, 0)], [(1, 119, 0), (0, 0, 0), (0, 0, 0)], [(1, 4, 0, 0, 11, 0), (1, 0, 0, 999, 999, 0), (1, 3, 0, -2147483648, 2147483647, 0), (1, 7, 0, -2147483648, 2147483647, 0), (2, 3, 7, 1, 0, 0)], 0, 0), (15, [])),
  (10, ([(1, 7, 0), (0, 0, 0), (0, 0, 0), (8, 0, 0)], [(0, 0, 0), (1, 119, 0), (0, 0, 0), (0, 0, 0)], [(1, 4, 0, 0, 11, 0), (1, 0, 0, 999, 999, 0), (1, 3, 0, -2147483648, 2147483647, 0), (1, 7, 0, -2147483648, 2147483647, 0), (1, 9, 0, 36, 36, 0), (2, 3, 7, 1, 0, 0)], 0, 0), (14, []))]
def kd_X7_leftAfter_add0c2_1 : List (Nat × sf_D × sf_M) := [(11, ([(1, 7, 0), (0, 0, 0), (0, 0, 0), (8, 0, 0)], [(0, 0, 0), (0, 0, 0), (1, 119, 0), (0, 0, 0), (0, 0, 0)], [(1, 4, 0, 0, 11, 0), (1, 0, 0, 999, 999, 0), (1, 3, 0, -2147483648, 2147483647, 0), (1, 7, 0, -2147483648, 2147483647, 0), (1, 9, 0, 36, 36, 0), (1, 12, 0, 0, 11, 0), (2, 3, 7, 1, 0, 0), (2, 12, 4, 1, 0, 0)], 0, 0), (13, [])),
  (12, ([(1, 7, 0), (0, 0, 0), (0, 0, 0), (8, 0, 0)], [(0, 0, 0), (1, 119, 0), (0, 0, 0), (0, 0, 0)], [(1, 4, 0, 0, 11, 0), (1, 0, 0, 999, 999, 0), (1, 3, 0, -2147483648, 2147483647, 0), (1, 7, 0, -2147483648, 2147483647, 0), (1, 9, 0, 36, 47, 0), (2, 3, 7, 1, 0, 0), (2, 9, 4, 1, 36, 0)], 0, 0), (12, [])),
  (13, ([(1, 7, 0), (0, 0, 0), (0, 0, 0), (8, 0, 0)], [(0, 0, 0), (0, 0, 0), (0, 0, 0)], [(1, 4, 0, 0, 11, 0), (1, 0, 0, 999, 999, 0), (1, 3, 0, -2147483648, 2147483647, 0), (1, 7, 0, -2147483648, 2147483647, 0), (1, 6, 0, 0, 250, 0), (2, 3, 7, 1, 0, 0)], 0, 0), (11, [])),
  (14, ([(1, 7, 0), (0, 0, 0), (0, 0, 0), (8, 0, 0)], [(0, 0, 0), (0, 0, 0)], [(1, 4, 0, 0, 11, 0), (1, 0, 0, 999, 999, 0), (1, 7, 0, -2147483648, 2147483647, 0), (1, 3, 0, -2147483648, 2147483647, 0)], 0, 0), (10, [])),
  (17, ([(1, 7, 0), (0, 0, 0), (0, 0, 0), (8, 0, 0)], [(0, 0, 0)], [(1, 4, 0, 0, 11, 0), (1, 7, 0, -2147483648, 2147483647, 0), (1, 0, 0, -2147483648, 999, 0)], 0, 0), (9, []))]
def kd_X7_leftAfter_add0c2_2 : List (Nat × sf_D × sf_M) := [(18, ([(1, 7, 0), (0, 0, 0), (0, 0, 0), (0, 0, 0)], [], [(1, 4, 0, 0, 11, 0), (1, 7, 0, -2147483648, 2147483647, 0), (1, 10, 0, -2147483648, 999, 0)], 0, 0), (8, [])),
  (19, ([(1, 7, 0), (0, 0, 0), (0, 0, 0), (0, 0, 0)], [(0, 0, 0)], [(1, 4, 0, 0, 11, 0), (1, 7, 0, -2147483648, 2147483647, 0), (1, 10, 0, -2147483648, 999, 0), (1, 0, 0, -2147483648, 999, 0), (2, 0, 10, 1, 0, 0)], 0, 0), (7, [])),
  (20, ([(1, 7, 0), (0, 0, 0), (0, 0, 0), (0, 0, 0)], [(1, 7, 0), (0, 0, 0)], [(1, 4, 0, 0, 11, 0), (1, 7, 0, -2147483648, 2147483647, 0), (1, 10, 0, -2147483648, 999, 0), (1, 0, 0, -2147483648, 999, 0), (2, 0, 10, 1, 0, 0)], 0, 0), (6, [])),
  (23, ([(1, 7, 0), (0, 0, 0), (0, 0, 0), (0, 0, 0)], [(1, 119, 0), (0, 0, 0)], [(1, 4, 0, 0, 11, 0), (1, 7, 0, -2147483648, 2147483647, 0), (1, 10, 0, -2147483648, 999, 0), (1, 0, 0, -2147483648, 999, 0), (2, 0, 10, 1, 0, 0)], 0, 0), (5, [])),
  (25, ([(1, 7, 0), (0, 0, 0), (0, 0, 0), (0, 0, 0)], [(0, 0, 0), (1, 119, 0), (0, 0, 0)], [(1, 4, 0, 0, 11, 0), (1, 7, 0, -2147483648, 2147483647, 0), (1, 10, 0, -2147483648, 999, 0), (1, 0, 0, -2147483648, 999, 0), (1, 6, 0, 24, 24, 0), (2, 0, 10, 1, 0, 0)], 0, 0), (4, []))]
def kd_X7_leftAfter_add0c2_3 : List (Nat × sf_D × sf_M) := [(26, ([(1, 7, 0), (0, 0, 0), (0, 0, 0), (0, 0, 0)], [(0, 0, 0), (0, 0, 0), (1, 119, 0), (0, 0, 0)], [(1, 4, 0, 0, 11, 0), (1, 7, 0, -2147483648, 2147483647, 0), (1, 10, 0, -2147483648, 999, 0), (1, 0, 0, -2147483648, 999, 0), (1, 6, 0, 24, 24, 0), (1, 9, 0, 0, 11, 0), (2, 0, 10, 1, 0, 0), (2, 9, 4, 1, 0, 0)], 0, 0), (3, [])),
  (27, ([(1, 7, 0), (0, 0, 0), (0, 0, 0), (0, 0, 0)], [(0, 0, 0), (1, 119, 0), (0, 0, 0)], [(1, 4, 0, 0, 11, 0), (1, 7, 0, -2147483648, 2147483647, 0), (1, 10, 0, -2147483648, 999, 0), (1, 0, 0, -2147483648, 999, 0), (1, 6, 0, 24, 35, 0), (2, 0, 10, 1, 0, 0), (2, 6, 4, 1, 24, 0)], 0, 0), (2, [])),
  (28, ([(1, 7, 0), (0, 0, 0), (0, 0, 0), (0, 0, 0)], [(0, 0, 0), (0, 0, 0)], [(1, 4, 0, 0, 11, 0), (1, 7, 0, -2147483648, 2147483647, 0), (1, 10, 0, -2147483648, 999, 0), (1, 0, 0, -2147483648, 999, 0), (1, 3, 0, 0, 250, 0), (2, 0, 10, 1, 0, 0)], 0, 0), (1, [])),
  (29, ([(1, 7, 0), (0, 0, 0), (0, 0, 0), (0, 0, 0)], [(0, 0, 0)], [(1, 4, 0, 0, 11, 0), (1, 7, 0, -2147483648, 2147483647, 0), (1, 10, 0, -2147483648, 999, 0), (1, 0, 0, -2147483648, 2147483647, 0)], 0, 0), (0, []))]
def kd_X7_leftAfter_add0c2 : List (Nat × sf_D × sf_M) := kd_X7_leftAfter_add0c2_0 ++ (kd_X7_leftAfter_add0c2_1 ++ (kd_X7_leftAfter_add0c2_2 ++ (kd_X7_leftAfter_add0c2_3)))
set_option maxRecDepth 100000 in
theorem kt_X7_leftAfter_add0c2 : sf_chk [] kq_X7_leftAfter_add0c2 4 kc_X7_leftAfter_add0c2 kd_X7_leftAfter_add0c2 = true := by decide +kernel
set_option maxRecDepth 100000 in
theorem kl_X7_leftAfter_add0c2 : (kc_X7_leftAfter_add0c2).map (fun c => (c.1, sf_den ([] : List sf_X) c.2)) = L_X7_leftAfter := rfl
theorem ct_X7_leftAfter_add0c2 : sf_ct kq_X7_leftAfter_add0c2 Z_X7_leftAfter := by
  have h := sf_meth (K := []) (E := []) (k := kq_X7_leftAfter_add0c2) (nL := 4) (C := kc_X7_leftAfter_add0c2) (D := kd_X7_leftAfter_add0c2) (fun m k hk => match m, hk with
    | _ + 0, hk => (by cases hk)) kt_X7_leftAfter_add0c2
  rw [kl_X7_leftAfter_add0c2] at h
  exact h
def kq_X7_stockAfter_add0c2 : sf_Q := ([(1, 7, 0), (0, 0, 0), (0, 0, 0)], [(1, 3, 0, 0, 11, 0)], some (0, 0, 0), [(1, 0, 0, 0, 2147483647, 0)], [])
def kc_X7_stockAfter_add0c2 : List (Nat × sf_I) := [(0, 0, [1, 0]),
  (1, 4, [2, 0]),
  (2, 2, [3, 1]),
  (3, 2, [4, 2]),
  (4, 32, [7, 0, 3, 7, 0, 0, 0, 0]),
  (7, 33, [10, 0, 0, 0]),
  (10, 35, [0, 0])]
def kd_X7_stockAfter_add0c2 : List (Nat × sf_D × sf_M) := [(0, ([(1, 7, 0), (0, 0, 0), (0, 0, 0)], [], [(1, 4, 0, 0, 11, 0)], 0, 0), (6, [])),
  (1, ([(1, 7, 0), (0, 0, 0), (0, 0, 0)], [(0, 0, 0)], [(1, 4, 0, 0, 11, 0), (1, 0, 0, 0, 0, 0)], 0, 0), (5, [])),
  (2, ([(1, 7, 0), (0, 0, 0), (0, 0, 0)], [(1, 7, 0), (0, 0, 0)], [(1, 4, 0, 0, 11, 0), (1, 0, 0, 0, 0, 0)], 0, 0), (4, [])),
  (3, ([(1, 7, 0), (0, 0, 0), (0, 0, 0)], [(0, 0, 0), (1, 7, 0), (0, 0, 0)], [(1, 4, 0, 0, 11, 0), (1, 0, 0, 0, 0, 0), (1, 6, 0, 0, 11, 0), (2, 6, 4, 1, 0, 0)], 0, 0), (3, [])),
  (4, ([(1, 7, 0), (0, 0, 0), (0, 0, 0)], [(0, 0, 0), (0, 0, 0), (1, 7, 0), (0, 0, 0)], [(1, 4, 0, 0, 11, 0), (1, 0, 0, 0, 0, 0), (1, 6, 0, 0, 11, 0), (1, 9, 0, -2147483648, 2147483647, 0), (1, 7, 0, -2147483648, 2147483647, 0), (2, 6, 4, 1, 0, 0), (2, 9, 7, 1, 0, 0)], 0, 0), (2, [])),
  (7, ([(1, 7, 0), (0, 0, 0), (0, 0, 0)], [(0, 0, 0), (0, 0, 0)], [(1, 4, 0, 0, 11, 0), (1, 0, 0, 0, 0, 0), (1, 7, 0, -2147483648, 2147483647, 0), (1, 3, 0, -2147483648, 2147483647, 0)], 0, 0), (1, [])),
  (10, ([(1, 7, 0), (0, 0, 0), (0, 0, 0)], [(0, 0, 0)], [(1, 4, 0, 0, 11, 0), (1, 7, 0, -2147483648, 2147483647, 0), (1, 0, 0, 0, 2147483647, 0)], 0, 0), (0, []))]
set_option maxRecDepth 100000 in
theorem kt_X7_stockAfter_add0c2 : sf_chk [kq_X7_leftAfter_add0c2] kq_X7_stockAfter_add0c2 3 kc_X7_stockAfter_add0c2 kd_X7_stockAfter_add0c2 = true := by decide +kernel
set_option maxRecDepth 100000 in
theorem kl_X7_stockAfter_add0c2 : (kc_X7_stockAfter_add0c2).map (fun c => (c.1, sf_den ([Z_X7_leftAfter] : List sf_X) c.2)) = L_X7_stockAfter Z_X7_leftAfter := rfl
theorem ct_X7_stockAfter_add0c2 : sf_ct kq_X7_stockAfter_add0c2 Z_X7_stockAfter := by
  have h := sf_meth (K := [kq_X7_leftAfter_add0c2]) (E := [Z_X7_leftAfter]) (k := kq_X7_stockAfter_add0c2) (nL := 3) (C := kc_X7_stockAfter_add0c2) (D := kd_X7_stockAfter_add0c2) (fun m k hk => match m, hk with
    | 0, hk => (Option.some.inj hk) ▸ ct_X7_leftAfter_add0c2
    | _ + 1, hk => (by cases hk)) kt_X7_stockAfter_add0c2
  rw [kl_X7_stockAfter_add0c2] at h
  exact h
def kq_X10_wouldCome_05c64d : sf_Q := ([(1, 10, 0), (0, 0, 0), (0, 0, 0), (0, 0, 0), (0, 0, 0)], [(1, 3, 0, 0, 5, 0), (1, 6, 0, 0, 1, 0), (1, 9, 0, 0, 999, 0)], some (0, 0, 0), [], [])
def kc_X10_wouldCome_05c64d : List (Nat × sf_I) := [(0, 2, [1, 1]),
  (1, 2, [2, 2]),
  (2, 31, [5, 0, 2, 0, 0, 0, 0]),
  (5, 5, [7, 5]),
  (7, 2, [8, 1]),
  (8, 0, [9, 1]),
  (9, 2, [10, 2]),
  (10, 9, [11, 1]),
  (11, 31, [14, 0, 2, 0, 0, 0, 0]),
  (14, 5, [16, 6]),
  (16, 4, [17, 0]),
  (17, 23, [20, 10, 13]),
  (20, 0, [21, 1]),
  (21, 2, [23, 5]),
  (23, 32, [26, 1, 3, 7, 0, 0, 0, 0]),
  (26, 5, [28, 7]),
  (28, 4, [29, 0]),
  (29, 23, [32, 10, 13]),
  (32, 0, [33, 1]),
  (33, 2, [35, 6]),
  (35, 32, [38, 1, 3, 7, 0, 0, 0, 0]),
  (38, 5, [40, 8]),
  (40, 4, [41, 0]),
  (41, 23, [44, 10, 4]),
  (44, 23, [47, 6, 0]),
  (47, 2, [49, 5]),
  (49, 25, [50, 1]),
  (50, 2, [51, 3]),
  (51, 9, [52, 1]),
  (52, 5, [54, 9]),
  (54, 4, [55, 0]),
  (55, 23, [58, 10, 4]),
  (58, 23, [61, 6, 0]),
  (61, 2, [63, 6]),
  (63, 25, [64, 1]),
  (64, 5, [66, 10]),
  (66, 0, [67, 0]),
  (67, 5, [69, 11]),
  (69, 0, [70, 0]),
  (70, 5, [72, 12]),
  (72, 2, [74, 12]),
  (74, 2, [76, 4]),
  (76, 21, [79, 210, 5]),
  (79, 2, [81, 12]),
  (81, 0, [83, 60]),
  (83, 21, [86, 210, 5]),
  (86, 4, [87, 0]),
  (87, 23, [90, 10, 4]),
  (90, 23, [93, 6, 7]),
  (93, 2, [95, 12]),
  (95, 9, [96, 0]),
  (96, 0, [97, 2]),
  (97, 10, [98]),
  (98, 2, [99, 2]),
  (99, 21, [102, 138, 1]),
  (102, 2, [104, 9]),
  (104, 2, [106, 8]),
  (106, 2, [108, 10]),
  (108, 9, [109, 1]),
  (109, 4, [110, 0]),
  (110, 23, [113, 10, 11]),
  (113, 2, [115, 12]),
  (115, 25, [116, 1]),
  (116, 31, [119, 2, 3, 0, 0, 0, 0]),
  (119, 5, [121, 13]),
  (121, 2, [123, 9]),
  (123, 2, [125, 13]),
  (125, 9, [126, 1]),
  (126, 5, [128, 9]),
  (128, 2, [130, 10]),
  (130, 2, [132, 13]),
  (132, 9, [133, 0]),
  (133, 5, [135, 10]),
  (135, 22, [178]),
  (138, 2, [140, 10]),
  (140, 2, [142, 7]),
  (142, 2, [144, 9]),
  (144, 9, [145, 1]),
  (145, 4, [146, 0]),
  (146, 23, [149, 10, 11]),
  (149, 2, [151, 12]),
  (151, 25, [152, 1]),
  (152, 31, [155, 3, 3, 0, 0, 0, 0]),
  (155, 5, [157, 13]),
  (157, 2, [159, 9]),
  (159, 2, [161, 13]),
  (161, 9, [162, 0]),
  (162, 5, [164, 9]),
  (164, 2, [166, 10]),
  (166, 2, [168, 13]),
  (168, 9, [169, 1]),
  (169, 5, [171, 10]),
  (171, 2, [173, 11]),
  (173, 2, [175, 13]),
  (175, 9, [176, 0]),
  (176, 5, [178, 11]),
  (178, 4, [179, 0]),
  (179, 23, [182, 10, 13]),
  (182, 2, [184, 5]),
  (184, 2, [186, 9]),
  (186, 32, [189, 4, 3, 7, 0, 0, 0, 0]),
  (189, 5, [191, 9]),
  (191, 4, [192, 0]),
  (192, 23, [195, 10, 13]),
  (195, 2, [197, 6]),
  (197, 2, [199, 10]),
  (199, 32, [202, 4, 3, 7, 0, 0, 0, 0]),
  (202, 5, [204, 10]),
  (204, 8, [207, 12, 1]),
  (207, 22, [72]),
  (210, 2, [212, 11]),
  (212, 35, [0, 0])]
def kd_X10_wouldCome_05c64d_0 : List (Nat × sf_D × sf_M) := [(0, ([(1, 10, 0), (0, 0, 0), (0, 0, 0), (0, 0, 0), (0, 0, 0), (8, 0, 0), (8, 0, 0), (8, 0, 0), (8, 0, 0), (8, 0, 0), (8, 0, 0), (8, 0, 0), (8, 0, 0), (8, 0, 0)], [], [(1, 4, 0, 0, 5, 0), (1, 7, 0, 0, 1, 0), (1, 10, 0, 0, 999, 0)], 0, 0), (4409, [])),
  (1, ([(1, 10, 0), (0, 0, 0), (0, 0, 0), (0, 0, 0), (0, 0, 0), (8, 0, 0), (8, 0, 0), (8, 0, 0), (8, 0, 0), (8, 0, 0), (8, 0, 0), (8, 0, 0), (8, 0, 0), (8, 0, 0)], [(0, 0, 0)], [(1, 4, 0, 0, 5, 0), (1, 7, 0, 0, 1, 0), (1, 10, 0, 0, 999, 0), (1, 0, 0, 0, 5, 0), (2, 0, 4, 1, 0, 0)], 0, 0), (4408, [])),
  (2, ([(1, 10, 0), (0, 0, 0), (0, 0, 0), (0, 0, 0), (0, 0, 0), (8, 0, 0), (8, 0, 0), (8, 0, 0), (8, 0, 0), (8, 0, 0), (8, 0, 0), (8, 0, 0), (8, 0, 0), (8, 0, 0)], [(0, 0, 0), (0, 0, 0)], [(1, 4, 0, 0, 5, 0), (1, 7, 0, 0, 1, 0), (1, 10, 0, 0, 999, 0), (1, 0, 0, 0, 5, 0), (1, 3, 0, 0, 1, 0), (2, 0, 4, 1, 0, 0), (2, 3, 7, 1, 0, 0)], 0, 0), (4407, [])),
  (5, ([(1, 10, 0), (0, 0, 0), (0, 0, 0), (0, 0, 0), (0, 0, 0), (8, 0, 0), (8, 0, 0), (8, 0, 0), (8, 0, 0), (8, 0, 0), (8, 0, 0), (8, 0, 0), (8, 0, 0), (8, 0, 0)], [(0, 0, 0)], [(1, 4, 0, 0, 5, 0), (1, 7, 0, 0, 1, 0), (1, 10, 0, 0, 999, 0), (1, 0, 0, 0, 11, 0)], 0, 0), (4406, []))]
def kd_X10_wouldCome_05c64d_1 : List (Nat × sf_D × sf_M) := [(7, ([(1, 10, 0), (0, 0, 0), (0, 0, 0), (0, 0, 0), (0, 0, 0), (0, 0, 0), (8, 0, 0), (8, 0, 0), (8, 0, 0), (8, 0, 0), (8, 0, 0), (8, 0, 0), (8, 0, 0), (8, 0, 0)], [], [(1, 4, 0, 0, 5, 0), (1, 7, 0, 0, 1, 0), (1, 10, 0, 0, 999, 0), (1, 16, 0, 0, 11, 0)], 0, 0), (4405, [])),
  (8, ([(1, 10, 0), (0, 0, 0), (0, 0, 0), (0, 0, 0), (0, 0, 0), (0, 0, 0), (8, 0, 0), (8, 0, 0), (8, 0, 0), (8, 0, 0), (8, 0, 0), (8, 0, 0), (8, 0, 0), (8, 0, 0)], [(0, 0, 0)], [(1, 4, 0, 0, 5, 0), (1, 7, 0, 0, 1, 0), (1, 10, 0, 0, 999, 0), (1, 16, 0, 0, 11, 0), (1, 0, 0, 0, 5, 0), (2, 0, 4, 1, 0, 0)], 0, 0), (4404, [])),
  (9, ([(1, 10, 0), (0, 0, 0), (0, 0, 0), (0, 0, 0), (0, 0, 0), (0, 0, 0), (8, 0, 0), (8, 0, 0), (8, 0, 0), (8, 0, 0), (8, 0, 0), (8, 0, 0), (8, 0, 0), (8, 0, 0)], [(0, 0, 0), (0, 0, 0)], [(1, 4, 0, 0, 5, 0), (1, 7, 0, 0, 1, 0), (1, 10, 0, 0, 999, 0), (1, 16, 0, 0, 11, 0), (1, 0, 0, 0, 5, 0), (1, 3, 0, 1, 1, 0), (2, 0, 4, 1, 0, 0)], 0, 0), (4403, []))]
def kd_X10_wouldCome_05c64d_2 : List (Nat × sf_D × sf_M) := [(10, ([(1, 10, 0), (0, 0, 0), (0, 0, 0), (0, 0, 0), (0, 0, 0), (0, 0, 0), (8, 0, 0), (8, 0, 0), (8, 0, 0), (8, 0, 0), (8, 0, 0), (8, 0, 0), (8, 0, 0), (8, 0, 0)], [(0, 0, 0), (0, 0, 0), (0, 0, 0)], [(1, 4, 0, 0, 5, 0), (1, 7, 0, 0, 1, 0), (1, 10, 0, 0, 999, 0), (1, 16, 0, 0, 11, 0), (1, 0, 0, 0, 5, 0), (1, 3, 0, 1, 1, 0), (1, 6, 0, 0, 1, 0), (2, 0, 4, 1, 0, 0), (2, 6, 7, 1, 0, 0)], 0, 0), (4402, [])),
  (11, ([(1, 10, 0), (0, 0, 0), (0, 0, 0), (0, 0, 0), (0, 0, 0), (0, 0, 0), (8, 0, 0), (8, 0, 0), (8, 0, 0), (8, 0, 0), (8, 0, 0), (8, 0, 0), (8, 0, 0), (8, 0, 0)], [(0, 0, 0), (0, 0, 0)], [(1, 4, 0, 0, 5, 0), (1, 7, 0, 0, 1, 0), (1, 10, 0, 0, 999, 0), (1, 16, 0, 0, 11, 0), (1, 0, 0, 0, 5, 0), (1, 3, 0, 0, 1, 0), (2, 0, 4, 1, 0, 0)], 0, 0), (4401, [])),
  (14, ([(1, 10, 0), (0, 0, 0), (0, 0, 0), (0, 0, 0), (0, 0, 0), (0, 0, 0), (8, 0, 0), (8, 0, 0), (8, 0, 0), (8, 0, 0), (8, 0, 0), (8, 0, 0), (8, 0, 0), (8, 0, 0)], [(0, 0, 0)], [(1, 4, 0, 0, 5, 0), (1, 7, 0, 0, 1, 0), (1, 10, 0, 0, 999, 0), (1, 16, 0, 0, 11, 0), (1, 0, 0, 0, 11, 0)], 0, 0), (4400, []))]
def kd_X10_wouldCome_05c64d_3 : List (Nat × sf_D × sf_M) := [(16, ([(1, 10, 0), (0, 0, 0), (0, 0, 0), (0, 0, 0), (0, 0, 0), (0, 0, 0), (0, 0, 0), (8, 0, 0), (8, 0, 0), (8, 0, 0), (8, 0, 0), (8, 0, 0), (8, 0, 0), (8, 0, 0)], [], [(1, 4, 0, 0, 5, 0), (1, 7, 0, 0, 1, 0), (1, 10, 0, 0, 999, 0), (1, 16, 0, 0, 11, 0), (1, 19, 0, 0, 11, 0)], 0, 0), (4399, [])),
  (17, ([(1, 10, 0), (0, 0, 0), (0, 0, 0), (0, 0, 0), (0, 0, 0), (0, 0, 0), (0, 0, 0), (8, 0, 0), (8, 0, 0), (8, 0, 0), (8, 0, 0), (8, 0, 0), (8, 0, 0), (8, 0, 0)], [(1, 10, 0)], [(1, 4, 0, 0, 5, 0), (1, 7, 0, 0, 1, 0), (1, 10, 0, 0, 999, 0), (1, 16, 0, 0, 11, 0), (1, 19, 0, 0, 11, 0)], 0, 0), (4398, [])),
  (20, ([(1, 10, 0), (0, 0, 0), (0, 0, 0), (0, 0, 0), (0, 0, 0), (0, 0, 0), (0, 0, 0), (8, 0, 0), (8, 0, 0), (8, 0, 0), (8, 0, 0), (8, 0, 0), (8, 0, 0), (8, 0, 0)], [(1, 7, 0)], [(1, 4, 0, 0, 5, 0), (1, 7, 0, 0, 1, 0), (1, 10, 0, 0, 999, 0), (1, 16, 0, 0, 11, 0), (1, 19, 0, 0, 11, 0)], 0, 0), (4397, [])),
  (21, ([(1, 10, 0), (0, 0, 0), (0, 0, 0), (0, 0, 0), (0, 0, 0), (0, 0, 0), (0, 0, 0), (8, 0, 0), (8, 0, 0), (8, 0, 0), (8, 0, 0), (8, 0, 0), (8, 0, 0), (8, 0, 0)], [(0, 0, 0), (1, 7, 0)], [(1, 4, 0, 0, 5, 0), (1, 7, 0, 0, 1, 0), (1, 10, 0, 0, 999, 0), (1, 16, 0, 0, 11, 0), (1, 19, 0, 0, 11, 0), (1, 3, 0, 1, 1, 0)], 0, 0), (4396, []))]
def kd_X10_wouldCome_05c64d_4 : List (Nat × sf_D × sf_M) := [(23, ([(1, 10, 0), (0, 0, 0), (0, 0, 0), (0, 0, 0), (0, 0, 0), (0, 0, 0), (0, 0, 0), (8, 0, 0), (8, 0, 0), (8, 0, 0), (8, 0, 0), (8, 0, 0), (8, 0, 0), (8, 0, 0)], [(0, 0, 0), (0, 0, 0), (1, 7, 0)], [(1, 4, 0, 0, 5, 0), (1, 7, 0, 0, 1, 0), (1, 10, 0, 0, 999, 0), (1, 16, 0, 0, 11, 0), (1, 19, 0, 0, 11, 0), (1, 3, 0, 1, 1, 0), (1, 6, 0, 0, 11, 0), (2, 6, 16, 1, 0, 0)], 0, 0), (4395, [])),
  (26, ([(1, 10, 0), (0, 0, 0), (0, 0, 0), (0, 0, 0), (0, 0, 0), (0, 0, 0), (0, 0, 0), (8, 0, 0), (8, 0, 0), (8, 0, 0), (8, 0, 0), (8, 0, 0), (8, 0, 0), (8, 0, 0)], [(0, 0, 0)], [(1, 4, 0, 0, 5, 0), (1, 7, 0, 0, 1, 0), (1, 10, 0, 0, 999, 0), (1, 16, 0, 0, 11, 0), (1, 19, 0, 0, 11, 0), (1, 0, 0, 0, 250, 0)], 0, 0), (4394, [])),
  (28, ([(1, 10, 0), (0, 0, 0), (0, 0, 0), (0, 0, 0), (0, 0, 0), (0, 0, 0), (0, 0, 0), (0, 0, 0), (8, 0, 0), (8, 0, 0), (8, 0, 0), (8, 0, 0), (8, 0, 0), (8, 0, 0)], [], [(1, 4, 0, 0, 5, 0), (1, 7, 0, 0, 1, 0), (1, 10, 0, 0, 999, 0), (1, 16, 0, 0, 11, 0), (1, 19, 0, 0, 11, 0), (1, 22, 0, 0, 250, 0)], 0, 0), (4393, []))]
def kd_X10_wouldCome_05c64d_5 : List (Nat × sf_D × sf_M) := [(29, ([(1, 10, 0), (0, 0, 0), (0, 0, 0), (0, 0, 0), (0, 0, 0), (0, 0, 0), (0, 0, 0), (0, 0, 0), (8, 0, 0), (8, 0, 0), (8, 0, 0), (8, 0, 0), (8, 0, 0), (8, 0, 0)], [(1, 10, 0)], [(1, 4, 0, 0, 5, 0), (1, 7, 0, 0, 1, 0), (1, 10, 0, 0, 999, 0), (1, 16, 0, 0, 11, 0), (1, 19, 0, 0, 11, 0), (1, 22, 0, 0, 250, 0)], 0, 0), (4392, [])),
  (32, ([(1, 10, 0), (0, 0, 0), (0, 0, 0), (0, 0, 0), (0, 0, 0), (0, 0, 0), (0, 0, 0), (0, 0, 0), (8, 0, 0), (8, 0, 0), (8, 0, 0), (8, 0, 0), (8, 0, 0), (8, 0, 0)], [(1, 7, 0)], [(1, 4, 0, 0, 5, 0), (1, 7, 0, 0, 1, 0), (1, 10, 0, 0, 999, 0), (1, 16, 0, 0, 11, 0), (1, 19, 0, 0, 11, 0), (1, 22, 0, 0, 250, 0)], 0, 0), (4391, [])),
  (33, ([(1, 10, 0), (0, 0, 0), (0, 0, 0), (0, 0, 0), (0, 0, 0), (0, 0, 0), (0, 0, 0), (0, 0, 0), (8, 0, 0), (8, 0, 0), (8, 0, 0), (8, 0, 0), (8, 0, 0), (8, 0, 0)], [(0, 0, 0), (1, 7, 0)], [(1, 4, 0, 0, 5, 0), (1, 7, 0, 0, 1, 0), (1, 10, 0, 0, 999, 0), (1, 16, 0, 0, 11, 0), (1, 19, 0, 0, 11, 0), (1, 22, 0, 0, 250, 0), (1, 3, 0, 1, 1, 0)], 0, 0), (4390, []))]
def kd_X10_wouldCome_05c64d_6 : List (Nat × sf_D × sf_M) := [(35, ([(1, 10, 0), (0, 0, 0), (0, 0, 0), (0, 0, 0), (0, 0, 0), (0, 0, 0), (0, 0, 0), (0, 0, 0), (8, 0, 0), (8, 0, 0), (8, 0, 0), (8, 0, 0), (8, 0, 0), (8, 0, 0)], [(0, 0, 0), (0, 0, 0), (1, 7, 0)], [(1, 4, 0, 0, 5, 0), (1, 7, 0, 0, 1, 0), (1, 10, 0, 0, 999, 0), (1, 16, 0, 0, 11, 0), (1, 19, 0, 0, 11, 0), (1, 22, 0, 0, 250, 0), (1, 3, 0, 1, 1, 0), (1, 6, 0, 0, 11, 0), (2, 6, 19, 1, 0, 0)], 0, 0), (4389, [])),
  (38, ([(1, 10, 0), (0, 0, 0), (0, 0, 0), (0, 0, 0), (0, 0, 0), (0, 0, 0), (0, 0, 0), (0, 0, 0), (8, 0, 0), (8, 0, 0), (8, 0, 0), (8, 0, 0), (8, 0, 0), (8, 0, 0)], [(0, 0, 0)], [(1, 4, 0, 0, 5, 0), (1, 7, 0, 0, 1, 0), (1, 10, 0, 0, 999, 0), (1, 16, 0, 0, 11, 0), (1, 19, 0, 0, 11, 0), (1, 22, 0, 0, 250, 0), (1, 0, 0, 0, 250, 0)], 0, 0), (4388, [])),
  (40, ([(1, 10, 0), (0, 0, 0), (0, 0, 0), (0, 0, 0), (0, 0, 0), (0, 0, 0), (0, 0, 0), (0, 0, 0), (0, 0, 0), (8, 0, 0), (8, 0, 0), (8, 0, 0), (8, 0, 0), (8, 0, 0)], [], [(1, 4, 0, 0, 5, 0), (1, 7, 0, 0, 1, 0), (1, 10, 0, 0, 999, 0), (1, 16, 0, 0, 11, 0), (1, 19, 0, 0, 11, 0), (1, 22, 0, 0, 250, 0), (1, 25, 0, 0, 250, 0)], 0, 0), (4387, []))]
def kd_X10_wouldCome_05c64d_7 : List (Nat × sf_D × sf_M) := [(41, ([(1, 10, 0), (0, 0, 0), (0, 0, 0), (0, 0, 0), (0, 0, 0), (0, 0, 0), (0, 0, 0), (0, 0, 0), (0, 0, 0), (8, 0, 0), (8, 0, 0), (8, 0, 0), (8, 0, 0), (8, 0, 0)], [(1, 10, 0)], [(1, 4, 0, 0, 5, 0), (1, 7, 0, 0, 1, 0), (1, 10, 0, 0, 999, 0), (1, 16, 0, 0, 11, 0), (1, 19, 0, 0, 11, 0), (1, 22, 0, 0, 250, 0), (1, 25, 0, 0, 250, 0)], 0, 0), (4386, [])),
  (44, ([(1, 10, 0), (0, 0, 0), (0, 0, 0), (0, 0, 0), (0, 0, 0), (0, 0, 0), (0, 0, 0), (0, 0, 0), (0, 0, 0), (8, 0, 0), (8, 0, 0), (8, 0, 0), (8, 0, 0), (8, 0, 0)], [(1, 6, 0)], [(1, 4, 0, 0, 5, 0), (1, 7, 0, 0, 1, 0), (1, 10, 0, 0, 999, 0), (1, 16, 0, 0, 11, 0), (1, 19, 0, 0, 11, 0), (1, 22, 0, 0, 250, 0), (1, 25, 0, 0, 250, 0)], 0, 0), (4385, [])),
  (47, ([(1, 10, 0), (0, 0, 0), (0, 0, 0), (0, 0, 0), (0, 0, 0), (0, 0, 0), (0, 0, 0), (0, 0, 0), (0, 0, 0), (8, 0, 0), (8, 0, 0), (8, 0, 0), (8, 0, 0), (8, 0, 0)], [(1, 149, 0)], [(1, 4, 0, 0, 5, 0), (1, 7, 0, 0, 1, 0), (1, 10, 0, 0, 999, 0), (1, 16, 0, 0, 11, 0), (1, 19, 0, 0, 11, 0), (1, 22, 0, 0, 250, 0), (1, 25, 0, 0, 250, 0)], 0, 0), (4384, []))]
def kd_X10_wouldCome_05c64d_8 : List (Nat × sf_D × sf_M) := [(49, ([(1, 10, 0), (0, 0, 0), (0, 0, 0), (0, 0, 0), (0, 0, 0), (0, 0, 0), (0, 0, 0), (0, 0, 0), (0, 0, 0), (8, 0, 0), (8, 0, 0), (8, 0, 0), (8, 0, 0), (8, 0, 0)], [(0, 0, 0), (1, 149, 0)], [(1, 4, 0, 0, 5, 0), (1, 7, 0, 0, 1, 0), (1, 10, 0, 0, 999, 0), (1, 16, 0, 0, 11, 0), (1, 19, 0, 0, 11, 0), (1, 22, 0, 0, 250, 0), (1, 25, 0, 0, 250, 0), (1, 3, 0, 0, 11, 0), (2, 3, 16, 1, 0, 0)], 0, 0), (4383, [])),
  (50, ([(1, 10, 0), (0, 0, 0), (0, 0, 0), (0, 0, 0), (0, 0, 0), (0, 0, 0), (0, 0, 0), (0, 0, 0), (0, 0, 0), (8, 0, 0), (8, 0, 0), (8, 0, 0), (8, 0, 0), (8, 0, 0)], [(0, 0, 0)], [(1, 4, 0, 0, 5, 0), (1, 7, 0, 0, 1, 0), (1, 10, 0, 0, 999, 0), (1, 16, 0, 0, 11, 0), (1, 19, 0, 0, 11, 0), (1, 22, 0, 0, 250, 0), (1, 25, 0, 0, 250, 0), (1, 0, 0, 0, 999, 0)], 0, 0), (4382, [])),
  (51, ([(1, 10, 0), (0, 0, 0), (0, 0, 0), (0, 0, 0), (0, 0, 0), (0, 0, 0), (0, 0, 0), (0, 0, 0), (0, 0, 0), (8, 0, 0), (8, 0, 0), (8, 0, 0), (8, 0, 0), (8, 0, 0)], [(0, 0, 0), (0, 0, 0)], [(1, 4, 0, 0, 5, 0), (1, 7, 0, 0, 1, 0), (1, 10, 0, 0, 999, 0), (1, 16, 0, 0, 11, 0), (1, 19, 0, 0, 11, 0), (1, 22, 0, 0, 250, 0), (1, 25, 0, 0, 250, 0), (1, 0, 0, 0, 999, 0), (1, 3, 0, 0, 999, 0), (2, 3, 10, 1, 0, 0)], 0, 0), (4381, []))]
def kd_X10_wouldCome_05c64d_9 : List (Nat × sf_D × sf_M) := [(52, ([(1, 10, 0), (0, 0, 0), (0, 0, 0), (0, 0, 0), (0, 0, 0), (0, 0, 0), (0, 0, 0), (0, 0, 0), (0, 0, 0), (8, 0, 0), (8, 0, 0), (8, 0, 0), (8, 0, 0), (8, 0, 0)], [(0, 0, 0)], [(1, 4, 0, 0, 5, 0), (1, 7, 0, 0, 1, 0), (1, 10, 0, 0, 999, 0), (1, 16, 0, 0, 11, 0), (1, 19, 0, 0, 11, 0), (1, 22, 0, 0, 250, 0), (1, 25, 0, 0, 250, 0), (1, 0, 0, -999, 999, 0)], 0, 0), (4380, [])),
  (54, ([(1, 10, 0), (0, 0, 0), (0, 0, 0), (0, 0, 0), (0, 0, 0), (0, 0, 0), (0, 0, 0), (0, 0, 0), (0, 0, 0), (0, 0, 0), (8, 0, 0), (8, 0, 0), (8, 0, 0), (8, 0, 0)], [], [(1, 4, 0, 0, 5, 0), (1, 7, 0, 0, 1, 0), (1, 10, 0, 0, 999, 0), (1, 16, 0, 0, 11, 0), (1, 19, 0, 0, 11, 0), (1, 22, 0, 0, 250, 0), (1, 25, 0, 0, 250, 0), (1, 28, 0, -999, 999, 0)], 0, 0), (4379, [])),
  (55, ([(1, 10, 0), (0, 0, 0), (0, 0, 0), (0, 0, 0), (0, 0, 0), (0, 0, 0), (0, 0, 0), (0, 0, 0), (0, 0, 0), (0, 0, 0), (8, 0, 0), (8, 0, 0), (8, 0, 0), (8, 0, 0)], [(1, 10, 0)], [(1, 4, 0, 0, 5, 0), (1, 7, 0, 0, 1, 0), (1, 10, 0, 0, 999, 0), (1, 16, 0, 0, 11, 0), (1, 19, 0, 0, 11, 0), (1, 22, 0, 0, 250, 0), (1, 25, 0, 0, 250, 0), (1, 28, 0, -999, 999, 0)], 0, 0), (4378, []))]
def kd_X10_wouldCome_05c64d_10 : List (Nat × sf_D × sf_M) := [(58, ([(1, 10, 0), (0, 0, 0), (0, 0, 0), (0, 0, 0), (0, 0, 0), (0, 0, 0), (0, 0, 0), (0, 0, 0), (0, 0, 0), (0, 0, 0), (8, 0, 0), (8, 0, 0), (8, 0, 0), (8, 0, 0)], [(1, 6, 0)], [(1, 4, 0, 0, 5, 0), (1, 7, 0, 0, 1, 0), (1, 10, 0, 0, 999, 0), (1, 16, 0, 0, 11, 0), (1, 19, 0, 0, 11, 0), (1, 22, 0, 0, 250, 0), (1, 25, 0, 0, 250, 0), (1, 28, 0, -999, 999, 0)], 0, 0), (4377, [])),
  (61, ([(1, 10, 0), (0, 0, 0), (0, 0, 0), (0, 0, 0), (0, 0, 0), (0, 0, 0), (0, 0, 0), (0, 0, 0), (0, 0, 0), (0, 0, 0), (8, 0, 0), (8, 0, 0), (8, 0, 0), (8, 0, 0)], [(1, 149, 0)], [(1, 4, 0, 0, 5, 0), (1, 7, 0, 0, 1, 0), (1, 10, 0, 0, 999, 0), (1, 16, 0, 0, 11, 0), (1, 19, 0, 0, 11, 0), (1, 22, 0, 0, 250, 0), (1, 25, 0, 0, 250, 0), (1, 28, 0, -999, 999, 0)], 0, 0), (4376, [])),
  (63, ([(1, 10, 0), (0, 0, 0), (0, 0, 0), (0, 0, 0), (0, 0, 0), (0, 0, 0), (0, 0, 0), (0, 0, 0), (0, 0, 0), (0, 0, 0), (8, 0, 0), (8, 0, 0), (8, 0, 0), (8, 0, 0)], [(0, 0, 0), (1, 149, 0)], [(1, 4, 0, 0, 5, 0), (1, 7, 0, 0, 1, 0), (1, 10, 0, 0, 999, 0), (1, 16, 0, 0, 11, 0), (1, 19, 0, 0, 11, 0), (1, 22, 0, 0, 250, 0), (1, 25, 0, 0, 250, 0), (1, 28, 0, -999, 999, 0), (1, 3, 0, 0, 11, 0), (2, 3, 19, 1, 0, 0)], 0, 0), (4375, []))]
def kd_X10_wouldCome_05c64d_11 : List (Nat × sf_D × sf_M) := [(64, ([(1, 10, 0), (0, 0, 0), (0, 0, 0), (0, 0, 0), (0, 0, 0), (0, 0, 0), (0, 0, 0), (0, 0, 0), (0, 0, 0), (0, 0, 0), (8, 0, 0), (8, 0, 0), (8, 0, 0), (8, 0, 0)], [(0, 0, 0)], [(1, 4, 0, 0, 5, 0), (1, 7, 0, 0, 1, 0), (1, 10, 0, 0, 999, 0), (1, 16, 0, 0, 11, 0), (1, 19, 0, 0, 11, 0), (1, 22, 0, 0, 250, 0), (1, 25, 0, 0, 250, 0), (1, 28, 0, -999, 999, 0), (1, 0, 0, 0, 999, 0)], 0, 0), (4374, [])),
  (66, ([(1, 10, 0), (0, 0, 0), (0, 0, 0), (0, 0, 0), (0, 0, 0), (0, 0, 0), (0, 0, 0), (0, 0, 0), (0, 0, 0), (0, 0, 0), (0, 0, 0), (8, 0, 0), (8, 0, 0), (8, 0, 0)], [], [(1, 4, 0, 0, 5, 0), (1, 7, 0, 0, 1, 0), (1, 10, 0, 0, 999, 0), (1, 16, 0, 0, 11, 0), (1, 19, 0, 0, 11, 0), (1, 22, 0, 0, 250, 0), (1, 25, 0, 0, 250, 0), (1, 28, 0, -999, 999, 0), (1, 31, 0, 0, 999, 0)], 0, 0), (4373, [])),
  (67, ([(1, 10, 0), (0, 0, 0), (0, 0, 0), (0, 0, 0), (0, 0, 0), (0, 0, 0), (0, 0, 0), (0, 0, 0), (0, 0, 0), (0, 0, 0), (0, 0, 0), (8, 0, 0), (8, 0, 0), (8, 0, 0)], [(0, 0, 0)], [(1, 4, 0, 0, 5, 0), (1, 7, 0, 0, 1, 0), (1, 10, 0, 0, 999, 0), (1, 16, 0, 0, 11, 0), (1, 19, 0, 0, 11, 0), (1, 22, 0, 0, 250, 0), (1, 25, 0, 0, 250, 0), (1, 28, 0, -999, 999, 0), (1, 31, 0, 0, 999, 0), (1, 0, 0, 0, 0, 0)], 0, 0), (4372, []))]
def kd_X10_wouldCome_05c64d_12 : List (Nat × sf_D × sf_M) := [(69, ([(1, 10, 0), (0, 0, 0), (0, 0, 0), (0, 0, 0), (0, 0, 0), (0, 0, 0), (0, 0, 0), (0, 0, 0), (0, 0, 0), (0, 0, 0), (0, 0, 0), (0, 0, 0), (8, 0, 0), (8, 0, 0)], [], [(1, 4, 0, 0, 5, 0), (1, 7, 0, 0, 1, 0), (1, 10, 0, 0, 999, 0), (1, 16, 0, 0, 11, 0), (1, 19, 0, 0, 11, 0), (1, 22, 0, 0, 250, 0), (1, 25, 0, 0, 250, 0), (1, 28, 0, -999, 999, 0), (1, 31, 0, 0, 999, 0), (1, 34, 0, 0, 0, 0)], 0, 0), (4371, [])),
  (70, ([(1, 10, 0), (0, 0, 0), (0, 0, 0), (0, 0, 0), (0, 0, 0), (0, 0, 0), (0, 0, 0), (0, 0, 0), (0, 0, 0), (0, 0, 0), (0, 0, 0), (0, 0, 0), (8, 0, 0), (8, 0, 0)], [(0, 0, 0)], [(1, 4, 0, 0, 5, 0), (1, 7, 0, 0, 1, 0), (1, 10, 0, 0, 999, 0), (1, 16, 0, 0, 11, 0), (1, 19, 0, 0, 11, 0), (1, 22, 0, 0, 250, 0), (1, 25, 0, 0, 250, 0), (1, 28, 0, -999, 999, 0), (1, 31, 0, 0, 999, 0), (1, 34, 0, 0, 0, 0), (1, 0, 0, 0, 0, 0)], 0, 0), (4370, []))]
def kd_X10_wouldCome_05c64d_13 : List (Nat × sf_D × sf_M) := [(72, ([(1, 10, 0), (0, 0, 0), (0, 0, 0), (0, 0, 0), (0, 0, 0), (0, 0, 0), (0, 0, 0), (0, 0, 0), (0, 0, 0), (0, 0, 0), (0, 0, 0), (0, 0, 0), (0, 0, 0), (8, 0, 0)], [], [(1, 4, 0, 0, 5, 0), (1, 7, 0, 0, 1, 0), (1, 10, 0, 0, 999, 0), (1, 16, 0, 0, 11, 0), (1, 19, 0, 0, 11, 0), (1, 22, 0, 0, 250, 0), (1, 25, 0, 0, 250, 0), (1, 28, 0, -999, 2147483647, 0), (1, 31, 0, 0, 2147483647, 0), (1, 34, 0, -2147483648, 2147483647, 0), (1, 37, 0, 0, 60, 0), (3, 37, 28, 0, 2147483647, 0), (3, 37, 13, 1, 2147483647, 0)], 0, 0), (49, [(72, 37, 60, 0)])),
  (74, ([(1, 10, 0), (0, 0, 0), (0, 0, 0), (0, 0, 0), (0, 0, 0), (0, 0, 0), (0, 0, 0), (0, 0, 0), (0, 0, 0), (0, 0, 0), (0, 0, 0), (0, 0, 0), (0, 0, 0), (8, 0, 0)], [(0, 0, 0)], [(1, 4, 0, 0, 5, 0), (1, 7, 0, 0, 1, 0), (1, 10, 0, 0, 999, 0), (1, 16, 0, 0, 11, 0), (1, 19, 0, 0, 11, 0), (1, 22, 0, 0, 250, 0), (1, 25, 0, 0, 250, 0), (1, 28, 0, -999, 2147483647, 0), (1, 31, 0, 0, 2147483647, 0), (1, 34, 0, -2147483648, 2147483647, 0), (1, 37, 0, 0, 60, 0), (1, 0, 0, 0, 60, 0), (3, 37, 28, 0, 2147483647, 0), (3, 37, 13, 1, 2147483647, 0), (2, 0, 37, 1, 0, 0)], 0, 0), (48, [(72, 37, 60, 0)]))]
def kd_X10_wouldCome_05c64d_14 : List (Nat × sf_D × sf_M) := [(76, ([(1, 10, 0), (0, 0, 0), (0, 0, 0), (0, 0, 0), (0, 0, 0), (0, 0, 0), (0, 0, 0), (0, 0, 0), (0, 0, 0), (0, 0, 0), (0, 0, 0), (0, 0, 0), (0, 0, 0), (8, 0, 0)], [(0, 0, 0), (0, 0, 0)], [(1, 4, 0, 0, 5, 0), (1, 7, 0, 0, 1, 0), (1, 10, 0, 0, 999, 0), (1, 16, 0, 0, 11, 0), (1, 19, 0, 0, 11, 0), (1, 22, 0, 0, 250, 0), (1, 25, 0, 0, 250, 0), (1, 28, 0, -999, 2147483647, 0), (1, 31, 0, 0, 2147483647, 0), (1, 34, 0, -2147483648, 2147483647, 0), (1, 37, 0, 0, 60, 0), (1, 0, 0, 0, 60, 0), (1, 3, 0, -2147483648, 2147483647, 0), (1, 13, 0, -2147483648, 2147483647, 0), (3, 37, 28, 0, 2147483647, 0), (3, 37, 13, 1, 2147483647, 0), (2, 0, 37, 1, 0, 0), (2, 3, 13, 1, 0, 0)], 0, 0), (47, [(72, 37, 60, 0)])),
  (79, ([(1, 10, 0), (0, 0, 0), (0, 0, 0), (0, 0, 0), (0, 0, 0), (0, 0, 0), (0, 0, 0), (0, 0, 0), (0, 0, 0), (0, 0, 0), (0, 0, 0), (0, 0, 0), (0, 0, 0), (8, 0, 0)], [], [(1, 4, 0, 0, 5, 0), (1, 7, 0, 0, 1, 0), (1, 10, 0, 0, 999, 0), (1, 16, 0, 0, 11, 0), (1, 19, 0, 0, 11, 0), (1, 22, 0, 0, 250, 0), (1, 25, 0, 0, 250, 0), (1, 28, 0, -999, 2147483647, 0), (1, 31, 0, 0, 2147483647, 0), (1, 34, 0, -2147483648, 2147483647, 0), (1, 37, 0, 0, 60, 0), (1, 13, 0, 1, 2147483647, 0), (3, 37, 28, 0, 2147483647, 0)], 0, 0), (46, [(72, 37, 60, 0)]))]
def kd_X10_wouldCome_05c64d_15 : List (Nat × sf_D × sf_M) := [(81, ([(1, 10, 0), (0, 0, 0), (0, 0, 0), (0, 0, 0), (0, 0, 0), (0, 0, 0), (0, 0, 0), (0, 0, 0), (0, 0, 0), (0, 0, 0), (0, 0, 0), (0, 0, 0), (0, 0, 0), (8, 0, 0)], [(0, 0, 0)], [(1, 4, 0, 0, 5, 0), (1, 7, 0, 0, 1, 0), (1, 10, 0, 0, 999, 0), (1, 16, 0, 0, 11, 0), (1, 19, 0, 0, 11, 0), (1, 22, 0, 0, 250, 0), (1, 25, 0, 0, 250, 0), (1, 28, 0, -999, 2147483647, 0), (1, 31, 0, 0, 2147483647, 0), (1, 34, 0, -2147483648, 2147483647, 0), (1, 37, 0, 0, 60, 0), (1, 13, 0, 1, 2147483647, 0), (1, 0, 0, 0, 60, 0), (3, 37, 28, 0, 2147483647, 0), (2, 0, 37, 1, 0, 0)], 0, 0), (45, [(72, 37, 60, 0)])),
  (83, ([(1, 10, 0), (0, 0, 0), (0, 0, 0), (0, 0, 0), (0, 0, 0), (0, 0, 0), (0, 0, 0), (0, 0, 0), (0, 0, 0), (0, 0, 0), (0, 0, 0), (0, 0, 0), (0, 0, 0), (8, 0, 0)], [(0, 0, 0), (0, 0, 0)], [(1, 4, 0, 0, 5, 0), (1, 7, 0, 0, 1, 0), (1, 10, 0, 0, 999, 0), (1, 16, 0, 0, 11, 0), (1, 19, 0, 0, 11, 0), (1, 22, 0, 0, 250, 0), (1, 25, 0, 0, 250, 0), (1, 28, 0, -999, 2147483647, 0), (1, 31, 0, 0, 2147483647, 0), (1, 34, 0, -2147483648, 2147483647, 0), (1, 37, 0, 0, 60, 0), (1, 13, 0, 1, 2147483647, 0), (1, 0, 0, 0, 60, 0), (1, 3, 0, 60, 60, 0), (3, 37, 28, 0, 2147483647, 0), (2, 0, 37, 1, 0, 0)], 0, 0), (44, [(72, 37, 60, 0)]))]
def kd_X10_wouldCome_05c64d_16 : List (Nat × sf_D × sf_M) := [(86, ([(1, 10, 0), (0, 0, 0), (0, 0, 0), (0, 0, 0), (0, 0, 0), (0, 0, 0), (0, 0, 0), (0, 0, 0), (0, 0, 0), (0, 0, 0), (0, 0, 0), (0, 0, 0), (0, 0, 0), (8, 0, 0)], [], [(1, 4, 0, 0, 5, 0), (1, 7, 0, 0, 1, 0), (1, 10, 0, 0, 999, 0), (1, 16, 0, 0, 11, 0), (1, 19, 0, 0, 11, 0), (1, 22, 0, 0, 250, 0), (1, 25, 0, 0, 250, 0), (1, 28, 0, -999, 2147483647, 0), (1, 31, 0, 0, 2147483647, 0), (1, 34, 0, -2147483648, 2147483647, 0), (1, 37, 0, 0, 59, 0), (1, 13, 0, 1, 2147483647, 0), (3, 37, 28, 0, 2147483647, 0)], 0, 0), (43, [(72, 37, 60, 0)])),
  (87, ([(1, 10, 0), (0, 0, 0), (0, 0, 0), (0, 0, 0), (0, 0, 0), (0, 0, 0), (0, 0, 0), (0, 0, 0), (0, 0, 0), (0, 0, 0), (0, 0, 0), (0, 0, 0), (0, 0, 0), (8, 0, 0)], [(1, 10, 0)], [(1, 4, 0, 0, 5, 0), (1, 7, 0, 0, 1, 0), (1, 10, 0, 0, 999, 0), (1, 16, 0, 0, 11, 0), (1, 19, 0, 0, 11, 0), (1, 22, 0, 0, 250, 0), (1, 25, 0, 0, 250, 0), (1, 28, 0, -999, 2147483647, 0), (1, 31, 0, 0, 2147483647, 0), (1, 34, 0, -2147483648, 2147483647, 0), (1, 37, 0, 0, 59, 0), (1, 13, 0, 1, 2147483647, 0), (3, 37, 28, 0, 2147483647, 0)], 0, 0), (42, [(72, 37, 60, 0)]))]
def kd_X10_wouldCome_05c64d_17 : List (Nat × sf_D × sf_M) := [(90, ([(1, 10, 0), (0, 0, 0), (0, 0, 0), (0, 0, 0), (0, 0, 0), (0, 0, 0), (0, 0, 0), (0, 0, 0), (0, 0, 0), (0, 0, 0), (0, 0, 0), (0, 0, 0), (0, 0, 0), (8, 0, 0)], [(1, 6, 0)], [(1, 4, 0, 0, 5, 0), (1, 7, 0, 0, 1, 0), (1, 10, 0, 0, 999, 0), (1, 16, 0, 0, 11, 0), (1, 19, 0, 0, 11, 0), (1, 22, 0, 0, 250, 0), (1, 25, 0, 0, 250, 0), (1, 28, 0, -999, 2147483647, 0), (1, 31, 0, 0, 2147483647, 0), (1, 34, 0, -2147483648, 2147483647, 0), (1, 37, 0, 0, 59, 0), (1, 13, 0, 1, 2147483647, 0), (3, 37, 28, 0, 2147483647, 0)], 0, 0), (41, [(72, 37, 60, 0)])),
  (93, ([(1, 10, 0), (0, 0, 0), (0, 0, 0), (0, 0, 0), (0, 0, 0), (0, 0, 0), (0, 0, 0), (0, 0, 0), (0, 0, 0), (0, 0, 0), (0, 0, 0), (0, 0, 0), (0, 0, 0), (8, 0, 0)], [(0, 0, 400)], [(1, 4, 0, 0, 5, 0), (1, 7, 0, 0, 1, 0), (1, 10, 0, 0, 999, 0), (1, 16, 0, 0, 11, 0), (1, 19, 0, 0, 11, 0), (1, 22, 0, 0, 250, 0), (1, 25, 0, 0, 250, 0), (1, 28, 0, -999, 2147483647, 0), (1, 31, 0, 0, 2147483647, 0), (1, 34, 0, -2147483648, 2147483647, 0), (1, 37, 0, 0, 59, 0), (1, 13, 0, 1, 2147483647, 0), (1, 0, 0, 0, 400, 0), (1, 21023, 0, -2147483648, 2147483647, 0), (3, 37, 28, 0, 2147483647, 0), (2, 0, 21023, 1, 0, 0)], 0, 0), (40, [(72, 37, 60, 0)]))]
def kd_X10_wouldCome_05c64d_18 : List (Nat × sf_D × sf_M) := [(95, ([(1, 10, 0), (0, 0, 0), (0, 0, 0), (0, 0, 0), (0, 0, 0), (0, 0, 0), (0, 0, 0), (0, 0, 0), (0, 0, 0), (0, 0, 0), (0, 0, 0), (0, 0, 0), (0, 0, 0), (8, 0, 0)], [(0, 0, 0), (0, 0, 400)], [(1, 4, 0, 0, 5, 0), (1, 7, 0, 0, 1, 0), (1, 10, 0, 0, 999, 0), (1, 16, 0, 0, 11, 0), (1, 19, 0, 0, 11, 0), (1, 22, 0, 0, 250, 0), (1, 25, 0, 0, 250, 0), (1, 28, 0, -999, 2147483647, 0), (1, 31, 0, 0, 2147483647, 0), (1, 34, 0, -2147483648, 2147483647, 0), (1, 37, 0, 0, 59, 0), (1, 13, 0, 1, 2147483647, 0), (1, 0, 0, 0, 400, 0), (1, 21023, 0, -2147483648, 2147483647, 0), (1, 3, 0, 0, 59, 0), (3, 37, 28, 0, 2147483647, 0), (2, 0, 21023, 1, 0, 0), (2, 3, 37, 1, 0, 0)], 0, 0), (39, [(72, 37, 60, 0)]))]
def kd_X10_wouldCome_05c64d_19 : List (Nat × sf_D × sf_M) := [(96, ([(1, 10, 0), (0, 0, 0), (0, 0, 0), (0, 0, 0), (0, 0, 0), (0, 0, 0), (0, 0, 0), (0, 0, 0), (0, 0, 0), (0, 0, 0), (0, 0, 0), (0, 0, 0), (0, 0, 0), (8, 0, 0)], [(0, 0, 0)], [(1, 4, 0, 0, 5, 0), (1, 7, 0, 0, 1, 0), (1, 10, 0, 0, 999, 0), (1, 16, 0, 0, 11, 0), (1, 19, 0, 0, 11, 0), (1, 22, 0, 0, 250, 0), (1, 25, 0, 0, 250, 0), (1, 28, 0, -999, 2147483647, 0), (1, 31, 0, 0, 2147483647, 0), (1, 34, 0, -2147483648, 2147483647, 0), (1, 37, 0, 0, 59, 0), (1, 13, 0, 1, 2147483647, 0), (1, 21023, 0, -2147483648, 2147483647, 0), (1, 0, 0, 0, 459, 0), (3, 37, 28, 0, 2147483647, 0)], 0, 0), (38, [(72, 37, 60, 0)])),
  (97, ([(1, 10, 0), (0, 0, 0), (0, 0, 0), (0, 0, 0), (0, 0, 0), (0, 0, 0), (0, 0, 0), (0, 0, 0), (0, 0, 0), (0, 0, 0), (0, 0, 0), (0, 0, 0), (0, 0, 0), (8, 0, 0)], [(0, 0, 0), (0, 0, 0)], [(1, 4, 0, 0, 5, 0), (1, 7, 0, 0, 1, 0), (1, 10, 0, 0, 999, 0), (1, 16, 0, 0, 11, 0), (1, 19, 0, 0, 11, 0), (1, 22, 0, 0, 250, 0), (1, 25, 0, 0, 250, 0), (1, 28, 0, -999, 2147483647, 0), (1, 31, 0, 0, 2147483647, 0), (1, 34, 0, -2147483648, 2147483647, 0), (1, 37, 0, 0, 59, 0), (1, 13, 0, 1, 2147483647, 0), (1, 21023, 0, -2147483648, 2147483647, 0), (1, 0, 0, 0, 459, 0), (1, 3, 0, 2, 2, 0), (3, 37, 28, 0, 2147483647, 0)], 0, 0), (37, [(72, 37, 60, 0)]))]
def kd_X10_wouldCome_05c64d_20 : List (Nat × sf_D × sf_M) := [(98, ([(1, 10, 0), (0, 0, 0), (0, 0, 0), (0, 0, 0), (0, 0, 0), (0, 0, 0), (0, 0, 0), (0, 0, 0), (0, 0, 0), (0, 0, 0), (0, 0, 0), (0, 0, 0), (0, 0, 0), (8, 0, 0)], [(0, 0, 0)], [(1, 4, 0, 0, 5, 0), (1, 7, 0, 0, 1, 0), (1, 10, 0, 0, 999, 0), (1, 16, 0, 0, 11, 0), (1, 19, 0, 0, 11, 0), (1, 22, 0, 0, 250, 0), (1, 25, 0, 0, 250, 0), (1, 28, 0, -999, 2147483647, 0), (1, 31, 0, 0, 2147483647, 0), (1, 34, 0, -2147483648, 2147483647, 0), (1, 37, 0, 0, 59, 0), (1, 13, 0, 1, 2147483647, 0), (1, 21023, 0, -2147483648, 2147483647, 0), (1, 0, 0, 0, 1, 0), (3, 37, 28, 0, 2147483647, 0)], 0, 0), (36, [(72, 37, 60, 0)])),
  (99, ([(1, 10, 0), (0, 0, 0), (0, 0, 0), (0, 0, 0), (0, 0, 0), (0, 0, 0), (0, 0, 0), (0, 0, 0), (0, 0, 0), (0, 0, 0), (0, 0, 0), (0, 0, 0), (0, 0, 0), (8, 0, 0)], [(0, 0, 0), (0, 0, 0)], [(1, 4, 0, 0, 5, 0), (1, 7, 0, 0, 1, 0), (1, 10, 0, 0, 999, 0), (1, 16, 0, 0, 11, 0), (1, 19, 0, 0, 11, 0), (1, 22, 0, 0, 250, 0), (1, 25, 0, 0, 250, 0), (1, 28, 0, -999, 2147483647, 0), (1, 31, 0, 0, 2147483647, 0), (1, 34, 0, -2147483648, 2147483647, 0), (1, 37, 0, 0, 59, 0), (1, 13, 0, 1, 2147483647, 0), (1, 21023, 0, -2147483648, 2147483647, 0), (1, 0, 0, 0, 1, 0), (1, 3, 0, 0, 1, 0), (3, 37, 28, 0, 2147483647, 0), (2, 3, 7, 1, 0, 0)], 0, 0), (35, [(72, 37, 60, 0)]))]
def kd_X10_wouldCome_05c64d_21 : List (Nat × sf_D × sf_M) := [(102, ([(1, 10, 0), (0, 0, 0), (0, 0, 0), (0, 0, 0), (0, 0, 0), (0, 0, 0), (0, 0, 0), (0, 0, 0), (0, 0, 0), (0, 0, 0), (0, 0, 0), (0, 0, 0), (0, 0, 0), (8, 0, 0)], [], [(1, 4, 0, 0, 5, 0), (1, 7, 0, 0, 1, 0), (1, 10, 0, 0, 999, 0), (1, 16, 0, 0, 11, 0), (1, 19, 0, 0, 11, 0), (1, 22, 0, 0, 250, 0), (1, 25, 0, 0, 250, 0), (1, 28, 0, -999, 2147483647, 0), (1, 31, 0, 0, 2147483647, 0), (1, 34, 0, -2147483648, 2147483647, 0), (1, 37, 0, 0, 59, 0), (1, 13, 0, 1, 2147483647, 0), (1, 21023, 0, -2147483648, 2147483647, 0), (3, 37, 28, 0, 2147483647, 0)], 0, 0), (31, [(72, 37, 60, 0)])),
  (104, ([(1, 10, 0), (0, 0, 0), (0, 0, 0), (0, 0, 0), (0, 0, 0), (0, 0, 0), (0, 0, 0), (0, 0, 0), (0, 0, 0), (0, 0, 0), (0, 0, 0), (0, 0, 0), (0, 0, 0), (8, 0, 0)], [(0, 0, 0)], [(1, 4, 0, 0, 5, 0), (1, 7, 0, 0, 1, 0), (1, 10, 0, 0, 999, 0), (1, 16, 0, 0, 11, 0), (1, 19, 0, 0, 11, 0), (1, 22, 0, 0, 250, 0), (1, 25, 0, 0, 250, 0), (1, 28, 0, -999, 2147483647, 0), (1, 31, 0, 0, 2147483647, 0), (1, 34, 0, -2147483648, 2147483647, 0), (1, 37, 0, 0, 59, 0), (1, 13, 0, 1, 2147483647, 0), (1, 21023, 0, -2147483648, 2147483647, 0), (1, 0, 0, -999, 2147483647, 0), (3, 37, 28, 0, 2147483647, 0), (2, 0, 28, 1, 0, 0)], 0, 0), (30, [(72, 37, 60, 0)]))]
def kd_X10_wouldCome_05c64d_22 : List (Nat × sf_D × sf_M) := [(106, ([(1, 10, 0), (0, 0, 0), (0, 0, 0), (0, 0, 0), (0, 0, 0), (0, 0, 0), (0, 0, 0), (0, 0, 0), (0, 0, 0), (0, 0, 0), (0, 0, 0), (0, 0, 0), (0, 0, 0), (8, 0, 0)], [(0, 0, 0), (0, 0, 0)], [(1, 4, 0, 0, 5, 0), (1, 7, 0, 0, 1, 0), (1, 10, 0, 0, 999, 0), (1, 16, 0, 0, 11, 0), (1, 19, 0, 0, 11, 0), (1, 22, 0, 0, 250, 0), (1, 25, 0, 0, 250, 0), (1, 28, 0, -999, 2147483647, 0), (1, 31, 0, 0, 2147483647, 0), (1, 34, 0, -2147483648, 2147483647, 0), (1, 37, 0, 0, 59, 0), (1, 13, 0, 1, 2147483647, 0), (1, 21023, 0, -2147483648, 2147483647, 0), (1, 0, 0, -999, 2147483647, 0), (1, 3, 0, 0, 250, 0), (3, 37, 28, 0, 2147483647, 0), (2, 0, 28, 1, 0, 0), (2, 3, 25, 1, 0, 0)], 0, 0), (29, [(72, 37, 60, 0)]))]
def kd_X10_wouldCome_05c64d_23 : List (Nat × sf_D × sf_M) := [(108, ([(1, 10, 0), (0, 0, 0), (0, 0, 0), (0, 0, 0), (0, 0, 0), (0, 0, 0), (0, 0, 0), (0, 0, 0), (0, 0, 0), (0, 0, 0), (0, 0, 0), (0, 0, 0), (0, 0, 0), (8, 0, 0)], [(0, 0, 0), (0, 0, 0), (0, 0, 0)], [(1, 4, 0, 0, 5, 0), (1, 7, 0, 0, 1, 0), (1, 10, 0, 0, 999, 0), (1, 16, 0, 0, 11, 0), (1, 19, 0, 0, 11, 0), (1, 22, 0, 0, 250, 0), (1, 25, 0, 0, 250, 0), (1, 28, 0, -999, 2147483647, 0), (1, 31, 0, 0, 2147483647, 0), (1, 34, 0, -2147483648, 2147483647, 0), (1, 37, 0, 0, 59, 0), (1, 13, 0, 1, 2147483647, 0), (1, 21023, 0, -2147483648, 2147483647, 0), (1, 0, 0, -999, 2147483647, 0), (1, 3, 0, 0, 250, 0), (1, 6, 0, 0, 2147483647, 0), (3, 37, 28, 0, 2147483647, 0), (2, 0, 28, 1, 0, 0), (2, 3, 25, 1, 0, 0), (2, 6, 31, 1, 0, 0)], 0, 0), (28, [(72, 37, 60, 0)]))]
def kd_X10_wouldCome_05c64d_24 : List (Nat × sf_D × sf_M) := [(109, ([(1, 10, 0), (0, 0, 0), (0, 0, 0), (0, 0, 0), (0, 0, 0), (0, 0, 0), (0, 0, 0), (0, 0, 0), (0, 0, 0), (0, 0, 0), (0, 0, 0), (0, 0, 0), (0, 0, 0), (8, 0, 0)], [(0, 0, 0), (0, 0, 0)], [(1, 4, 0, 0, 5, 0), (1, 7, 0, 0, 1, 0), (1, 10, 0, 0, 999, 0), (1, 16, 0, 0, 11, 0), (1, 19, 0, 0, 11, 0), (1, 22, 0, 0, 250, 0), (1, 25, 0, 0, 250, 0), (1, 28, 0, -999, 2147483647, 0), (1, 31, 0, 0, 2147483647, 0), (1, 34, 0, -2147483648, 2147483647, 0), (1, 37, 0, 0, 59, 0), (1, 13, 0, 1, 2147483647, 0), (1, 21023, 0, -2147483648, 2147483647, 0), (1, 0, 0, -999, 2147483647, 0), (1, 3, 0, -2147483647, 250, 0), (2, 0, 28, 1, 0, 0), (3, 37, 28, 0, 2147483647, 0)], 0, 0), (27, [(72, 37, 60, 0)]))]
def kd_X10_wouldCome_05c64d_25 : List (Nat × sf_D × sf_M) := [(110, ([(1, 10, 0), (0, 0, 0), (0, 0, 0), (0, 0, 0), (0, 0, 0), (0, 0, 0), (0, 0, 0), (0, 0, 0), (0, 0, 0), (0, 0, 0), (0, 0, 0), (0, 0, 0), (0, 0, 0), (8, 0, 0)], [(1, 10, 0), (0, 0, 0), (0, 0, 0)], [(1, 4, 0, 0, 5, 0), (1, 7, 0, 0, 1, 0), (1, 10, 0, 0, 999, 0), (1, 16, 0, 0, 11, 0), (1, 19, 0, 0, 11, 0), (1, 22, 0, 0, 250, 0), (1, 25, 0, 0, 250, 0), (1, 28, 0, -999, 2147483647, 0), (1, 31, 0, 0, 2147483647, 0), (1, 34, 0, -2147483648, 2147483647, 0), (1, 37, 0, 0, 59, 0), (1, 13, 0, 1, 2147483647, 0), (1, 21023, 0, -2147483648, 2147483647, 0), (1, 0, 0, -999, 2147483647, 0), (1, 3, 0, -2147483647, 250, 0), (2, 0, 28, 1, 0, 0), (3, 37, 28, 0, 2147483647, 0)], 0, 0), (26, [(72, 37, 60, 0)]))]
def kd_X10_wouldCome_05c64d_26 : List (Nat × sf_D × sf_M) := [(113, ([(1, 10, 0), (0, 0, 0), (0, 0, 0), (0, 0, 0), (0, 0, 0), (0, 0, 0), (0, 0, 0), (0, 0, 0), (0, 0, 0), (0, 0, 0), (0, 0, 0), (0, 0, 0), (0, 0, 0), (8, 0, 0)], [(1, 129, 0), (0, 0, 0), (0, 0, 0)], [(1, 4, 0, 0, 5, 0), (1, 7, 0, 0, 1, 0), (1, 10, 0, 0, 999, 0), (1, 16, 0, 0, 11, 0), (1, 19, 0, 0, 11, 0), (1, 22, 0, 0, 250, 0), (1, 25, 0, 0, 250, 0), (1, 28, 0, -999, 2147483647, 0), (1, 31, 0, 0, 2147483647, 0), (1, 34, 0, -2147483648, 2147483647, 0), (1, 37, 0, 0, 59, 0), (1, 13, 0, 1, 2147483647, 0), (1, 21023, 0, -2147483648, 2147483647, 0), (1, 0, 0, -999, 2147483647, 0), (1, 3, 0, -2147483647, 250, 0), (2, 0, 28, 1, 0, 0), (3, 37, 28, 0, 2147483647, 0)], 0, 0), (25, [(72, 37, 60, 0)]))]
def kd_X10_wouldCome_05c64d_27 : List (Nat × sf_D × sf_M) := [(115, ([(1, 10, 0), (0, 0, 0), (0, 0, 0), (0, 0, 0), (0, 0, 0), (0, 0, 0), (0, 0, 0), (0, 0, 0), (0, 0, 0), (0, 0, 0), (0, 0, 0), (0, 0, 0), (0, 0, 0), (8, 0, 0)], [(0, 0, 0), (1, 129, 0), (0, 0, 0), (0, 0, 0)], [(1, 4, 0, 0, 5, 0), (1, 7, 0, 0, 1, 0), (1, 10, 0, 0, 999, 0), (1, 16, 0, 0, 11, 0), (1, 19, 0, 0, 11, 0), (1, 22, 0, 0, 250, 0), (1, 25, 0, 0, 250, 0), (1, 28, 0, -999, 2147483647, 0), (1, 31, 0, 0, 2147483647, 0), (1, 34, 0, -2147483648, 2147483647, 0), (1, 37, 0, 0, 59, 0), (1, 13, 0, 1, 2147483647, 0), (1, 21023, 0, -2147483648, 2147483647, 0), (1, 0, 0, -999, 2147483647, 0), (1, 3, 0, -2147483647, 250, 0), (1, 9, 0, 0, 59, 0), (2, 0, 28, 1, 0, 0), (3, 37, 28, 0, 2147483647, 0), (2, 9, 37, 1, 0, 0)], 0, 0), (24, [(72, 37, 60, 0)]))]
def kd_X10_wouldCome_05c64d_28 : List (Nat × sf_D × sf_M) := [(116, ([(1, 10, 0), (0, 0, 0), (0, 0, 0), (0, 0, 0), (0, 0, 0), (0, 0, 0), (0, 0, 0), (0, 0, 0), (0, 0, 0), (0, 0, 0), (0, 0, 0), (0, 0, 0), (0, 0, 0), (8, 0, 0)], [(0, 0, 0), (0, 0, 0), (0, 0, 0)], [(1, 4, 0, 0, 5, 0), (1, 7, 0, 0, 1, 0), (1, 10, 0, 0, 999, 0), (1, 16, 0, 0, 11, 0), (1, 19, 0, 0, 11, 0), (1, 22, 0, 0, 250, 0), (1, 25, 0, 0, 250, 0), (1, 28, 0, -999, 2147483647, 0), (1, 31, 0, 0, 2147483647, 0), (1, 34, 0, -2147483648, 2147483647, 0), (1, 37, 0, 0, 59, 0), (1, 13, 0, 1, 2147483647, 0), (1, 21023, 0, -2147483648, 2147483647, 0), (1, 0, 0, -999, 2147483647, 0), (1, 3, 0, -2147483647, 250, 0), (1, 6, 0, -2147483648, 2147483647, 0), (2, 0, 28, 1, 0, 0), (3, 37, 28, 0, 2147483647, 0)], 0, 0), (23, [(72, 37, 60, 0)]))]
def kd_X10_wouldCome_05c64d_29 : List (Nat × sf_D × sf_M) := [(119, ([(1, 10, 0), (0, 0, 0), (0, 0, 0), (0, 0, 0), (0, 0, 0), (0, 0, 0), (0, 0, 0), (0, 0, 0), (0, 0, 0), (0, 0, 0), (0, 0, 0), (0, 0, 0), (0, 0, 0), (8, 0, 0)], [(0, 0, 0)], [(1, 4, 0, 0, 5, 0), (1, 7, 0, 0, 1, 0), (1, 10, 0, 0, 999, 0), (1, 16, 0, 0, 11, 0), (1, 19, 0, 0, 11, 0), (1, 22, 0, 0, 250, 0), (1, 25, 0, 0, 250, 0), (1, 28, 0, -999, 2147483647, 0), (1, 31, 0, 0, 2147483647, 0), (1, 34, 0, -2147483648, 2147483647, 0), (1, 37, 0, 0, 59, 0), (1, 13, 0, 1, 2147483647, 0), (1, 21023, 0, -2147483648, 2147483647, 0), (1, 0, 0, 0, 2147483647, 0), (3, 37, 28, 0, 2147483647, 0)], 0, 0), (22, [(72, 37, 60, 0)])),
  (121, ([(1, 10, 0), (0, 0, 0), (0, 0, 0), (0, 0, 0), (0, 0, 0), (0, 0, 0), (0, 0, 0), (0, 0, 0), (0, 0, 0), (0, 0, 0), (0, 0, 0), (0, 0, 0), (0, 0, 0), (0, 0, 0)], [], [(1, 4, 0, 0, 5, 0), (1, 7, 0, 0, 1, 0), (1, 10, 0, 0, 999, 0), (1, 16, 0, 0, 11, 0), (1, 19, 0, 0, 11, 0), (1, 22, 0, 0, 250, 0), (1, 25, 0, 0, 250, 0), (1, 28, 0, -999, 2147483647, 0), (1, 31, 0, 0, 2147483647, 0), (1, 34, 0, -2147483648, 2147483647, 0), (1, 37, 0, 0, 59, 0), (1, 13, 0, 1, 2147483647, 0), (1, 21023, 0, -2147483648, 2147483647, 0), (1, 40, 0, 0, 2147483647, 0), (3, 37, 28, 0, 2147483647, 0)], 0, 0), (21, [(72, 37, 60, 0)]))]
def kd_X10_wouldCome_05c64d_30 : List (Nat × sf_D × sf_M) := [(123, ([(1, 10, 0), (0, 0, 0), (0, 0, 0), (0, 0, 0), (0, 0, 0), (0, 0, 0), (0, 0, 0), (0, 0, 0), (0, 0, 0), (0, 0, 0), (0, 0, 0), (0, 0, 0), (0, 0, 0), (0, 0, 0)], [(0, 0, 0)], [(1, 4, 0, 0, 5, 0), (1, 7, 0, 0, 1, 0), (1, 10, 0, 0, 999, 0), (1, 16, 0, 0, 11, 0), (1, 19, 0, 0, 11, 0), (1, 22, 0, 0, 250, 0), (1, 25, 0, 0, 250, 0), (1, 28, 0, -999, 2147483647, 0), (1, 31, 0, 0, 2147483647, 0), (1, 34, 0, -2147483648, 2147483647, 0), (1, 37, 0, 0, 59, 0), (1, 13, 0, 1, 2147483647, 0), (1, 21023, 0, -2147483648, 2147483647, 0), (1, 40, 0, 0, 2147483647, 0), (1, 0, 0, -999, 2147483647, 0), (3, 37, 28, 0, 2147483647, 0), (2, 0, 28, 1, 0, 0)], 0, 0), (20, [(72, 37, 60, 0)]))]
def kd_X10_wouldCome_05c64d_31 : List (Nat × sf_D × sf_M) := [(125, ([(1, 10, 0), (0, 0, 0), (0, 0, 0), (0, 0, 0), (0, 0, 0), (0, 0, 0), (0, 0, 0), (0, 0, 0), (0, 0, 0), (0, 0, 0), (0, 0, 0), (0, 0, 0), (0, 0, 0), (0, 0, 0)], [(0, 0, 0), (0, 0, 0)], [(1, 4, 0, 0, 5, 0), (1, 7, 0, 0, 1, 0), (1, 10, 0, 0, 999, 0), (1, 16, 0, 0, 11, 0), (1, 19, 0, 0, 11, 0), (1, 22, 0, 0, 250, 0), (1, 25, 0, 0, 250, 0), (1, 28, 0, -999, 2147483647, 0), (1, 31, 0, 0, 2147483647, 0), (1, 34, 0, -2147483648, 2147483647, 0), (1, 37, 0, 0, 59, 0), (1, 13, 0, 1, 2147483647, 0), (1, 21023, 0, -2147483648, 2147483647, 0), (1, 40, 0, 0, 2147483647, 0), (1, 0, 0, -999, 2147483647, 0), (1, 3, 0, 0, 2147483647, 0), (3, 37, 28, 0, 2147483647, 0), (2, 0, 28, 1, 0, 0), (2, 3, 40, 1, 0, 0)], 0, 0), (19, [(72, 37, 60, 0)]))]
def kd_X10_wouldCome_05c64d_32 : List (Nat × sf_D × sf_M) := [(126, ([(1, 10, 0), (0, 0, 0), (0, 0, 0), (0, 0, 0), (0, 0, 0), (0, 0, 0), (0, 0, 0), (0, 0, 0), (0, 0, 0), (0, 0, 0), (0, 0, 0), (0, 0, 0), (0, 0, 0), (0, 0, 0)], [(0, 0, 0)], [(1, 4, 0, 0, 5, 0), (1, 7, 0, 0, 1, 0), (1, 10, 0, 0, 999, 0), (1, 16, 0, 0, 11, 0), (1, 19, 0, 0, 11, 0), (1, 22, 0, 0, 250, 0), (1, 25, 0, 0, 250, 0), (1, 28, 0, -999, 2147483647, 0), (1, 31, 0, 0, 2147483647, 0), (1, 34, 0, -2147483648, 2147483647, 0), (1, 37, 0, 0, 59, 0), (1, 13, 0, 1, 2147483647, 0), (1, 21023, 0, -2147483648, 2147483647, 0), (1, 40, 0, 0, 2147483647, 0), (1, 0, 0, -2147483648, 2147483647, 0), (3, 37, 28, 0, 2147483647, 0)], 0, 0), (18, [(72, 37, 60, 0)])),
  (128, ([(1, 10, 0), (0, 0, 0), (0, 0, 0), (0, 0, 0), (0, 0, 0), (0, 0, 0), (0, 0, 0), (0, 0, 0), (0, 0, 0), (0, 0, 0), (0, 0, 0), (0, 0, 0), (0, 0, 0), (0, 0, 0)], [], [(1, 4, 0, 0, 5, 0), (1, 7, 0, 0, 1, 0), (1, 10, 0, 0, 999, 0), (1, 16, 0, 0, 11, 0), (1, 19, 0, 0, 11, 0), (1, 22, 0, 0, 250, 0), (1, 25, 0, 0, 250, 0), (1, 31, 0, 0, 2147483647, 0), (1, 34, 0, -2147483648, 2147483647, 0), (1, 37, 0, 0, 59, 0), (1, 13, 0, 1, 2147483647, 0), (1, 21023, 0, -2147483648, 2147483647, 0), (1, 40, 0, 0, 2147483647, 0), (1, 28, 0, -2147483648, 2147483647, 0)], 0, 0), (17, [(72, 37, 60, 0)]))]
def kd_X10_wouldCome_05c64d_33 : List (Nat × sf_D × sf_M) := [(130, ([(1, 10, 0), (0, 0, 0), (0, 0, 0), (0, 0, 0), (0, 0, 0), (0, 0, 0), (0, 0, 0), (0, 0, 0), (0, 0, 0), (0, 0, 0), (0, 0, 0), (0, 0, 0), (0, 0, 0), (0, 0, 0)], [(0, 0, 0)], [(1, 4, 0, 0, 5, 0), (1, 7, 0, 0, 1, 0), (1, 10, 0, 0, 999, 0), (1, 16, 0, 0, 11, 0), (1, 19, 0, 0, 11, 0), (1, 22, 0, 0, 250, 0), (1, 25, 0, 0, 250, 0), (1, 31, 0, 0, 2147483647, 0), (1, 34, 0, -2147483648, 2147483647, 0), (1, 37, 0, 0, 59, 0), (1, 13, 0, 1, 2147483647, 0), (1, 21023, 0, -2147483648, 2147483647, 0), (1, 40, 0, 0, 2147483647, 0), (1, 28, 0, -2147483648, 2147483647, 0), (1, 0, 0, 0, 2147483647, 0), (2, 0, 31, 1, 0, 0)], 0, 0), (16, [(72, 37, 60, 0)]))]
def kd_X10_wouldCome_05c64d_34 : List (Nat × sf_D × sf_M) := [(132, ([(1, 10, 0), (0, 0, 0), (0, 0, 0), (0, 0, 0), (0, 0, 0), (0, 0, 0), (0, 0, 0), (0, 0, 0), (0, 0, 0), (0, 0, 0), (0, 0, 0), (0, 0, 0), (0, 0, 0), (0, 0, 0)], [(0, 0, 0), (0, 0, 0)], [(1, 4, 0, 0, 5, 0), (1, 7, 0, 0, 1, 0), (1, 10, 0, 0, 999, 0), (1, 16, 0, 0, 11, 0), (1, 19, 0, 0, 11, 0), (1, 22, 0, 0, 250, 0), (1, 25, 0, 0, 250, 0), (1, 31, 0, 0, 2147483647, 0), (1, 34, 0, -2147483648, 2147483647, 0), (1, 37, 0, 0, 59, 0), (1, 13, 0, 1, 2147483647, 0), (1, 21023, 0, -2147483648, 2147483647, 0), (1, 40, 0, 0, 2147483647, 0), (1, 28, 0, -2147483648, 2147483647, 0), (1, 0, 0, 0, 2147483647, 0), (1, 3, 0, 0, 2147483647, 0), (2, 0, 31, 1, 0, 0), (2, 3, 40, 1, 0, 0)], 0, 0), (15, [(72, 37, 60, 0)]))]
def kd_X10_wouldCome_05c64d_35 : List (Nat × sf_D × sf_M) := [(133, ([(1, 10, 0), (0, 0, 0), (0, 0, 0), (0, 0, 0), (0, 0, 0), (0, 0, 0), (0, 0, 0), (0, 0, 0), (0, 0, 0), (0, 0, 0), (0, 0, 0), (0, 0, 0), (0, 0, 0), (0, 0, 0)], [(0, 0, 0)], [(1, 4, 0, 0, 5, 0), (1, 7, 0, 0, 1, 0), (1, 10, 0, 0, 999, 0), (1, 16, 0, 0, 11, 0), (1, 19, 0, 0, 11, 0), (1, 22, 0, 0, 250, 0), (1, 25, 0, 0, 250, 0), (1, 31, 0, 0, 2147483647, 0), (1, 34, 0, -2147483648, 2147483647, 0), (1, 37, 0, 0, 59, 0), (1, 13, 0, 1, 2147483647, 0), (1, 21023, 0, -2147483648, 2147483647, 0), (1, 40, 0, 0, 2147483647, 0), (1, 28, 0, -2147483648, 2147483647, 0), (1, 0, 0, -2147483648, 2147483647, 0)], 0, 0), (14, [(72, 37, 60, 0)])),
  (135, ([(1, 10, 0), (0, 0, 0), (0, 0, 0), (0, 0, 0), (0, 0, 0), (0, 0, 0), (0, 0, 0), (0, 0, 0), (0, 0, 0), (0, 0, 0), (0, 0, 0), (0, 0, 0), (0, 0, 0), (0, 0, 0)], [], [(1, 4, 0, 0, 5, 0), (1, 7, 0, 0, 1, 0), (1, 10, 0, 0, 999, 0), (1, 16, 0, 0, 11, 0), (1, 19, 0, 0, 11, 0), (1, 22, 0, 0, 250, 0), (1, 25, 0, 0, 250, 0), (1, 34, 0, -2147483648, 2147483647, 0), (1, 37, 0, 0, 59, 0), (1, 13, 0, 1, 2147483647, 0), (1, 21023, 0, -2147483648, 2147483647, 0), (1, 40, 0, 0, 2147483647, 0), (1, 28, 0, -2147483648, 2147483647, 0), (1, 31, 0, -2147483648, 2147483647, 0)], 0, 0), (13, [(72, 37, 60, 0)]))]
def kd_X10_wouldCome_05c64d_36 : List (Nat × sf_D × sf_M) := [(138, ([(1, 10, 0), (0, 0, 0), (0, 0, 0), (0, 0, 0), (0, 0, 0), (0, 0, 0), (0, 0, 0), (0, 0, 0), (0, 0, 0), (0, 0, 0), (0, 0, 0), (0, 0, 0), (0, 0, 0), (8, 0, 0)], [], [(1, 4, 0, 0, 5, 0), (1, 7, 0, 0, 1, 0), (1, 10, 0, 0, 999, 0), (1, 16, 0, 0, 11, 0), (1, 19, 0, 0, 11, 0), (1, 22, 0, 0, 250, 0), (1, 25, 0, 0, 250, 0), (1, 28, 0, -999, 2147483647, 0), (1, 31, 0, 0, 2147483647, 0), (1, 34, 0, -2147483648, 2147483647, 0), (1, 37, 0, 0, 59, 0), (1, 13, 0, 1, 2147483647, 0), (1, 21023, 0, -2147483648, 2147483647, 0), (3, 37, 28, 0, 2147483647, 0)], 0, 0), (34, [(72, 37, 60, 0)])),
  (140, ([(1, 10, 0), (0, 0, 0), (0, 0, 0), (0, 0, 0), (0, 0, 0), (0, 0, 0), (0, 0, 0), (0, 0, 0), (0, 0, 0), (0, 0, 0), (0, 0, 0), (0, 0, 0), (0, 0, 0), (8, 0, 0)], [(0, 0, 0)], [(1, 4, 0, 0, 5, 0), (1, 7, 0, 0, 1, 0), (1, 10, 0, 0, 999, 0), (1, 16, 0, 0, 11, 0), (1, 19, 0, 0, 11, 0), (1, 22, 0, 0, 250, 0), (1, 25, 0, 0, 250, 0), (1, 28, 0, -999, 2147483647, 0), (1, 31, 0, 0, 2147483647, 0), (1, 34, 0, -2147483648, 2147483647, 0), (1, 37, 0, 0, 59, 0), (1, 13, 0, 1, 2147483647, 0), (1, 21023, 0, -2147483648, 2147483647, 0), (1, 0, 0, 0, 2147483647, 0), (3, 37, 28, 0, 2147483647, 0), (2, 0, 31, 1, 0, 0)], 0, 0), (33, [(72, 37, 60, 0)]))]
def kd_X10_wouldCome_05c64d_37 : List (Nat × sf_D × sf_M) := [(142, ([(1, 10, 0), (0, 0, 0), (0, 0, 0), (0, 0, 0), (0, 0, 0), (0, 0, 0), (0, 0, 0), (0, 0, 0), (0, 0, 0), (0, 0, 0), (0, 0, 0), (0, 0, 0), (0, 0, 0), (8, 0, 0)], [(0, 0, 0), (0, 0, 0)], [(1, 4, 0, 0, 5, 0), (1, 7, 0, 0, 1, 0), (1, 10, 0, 0, 999, 0), (1, 16, 0, 0, 11, 0), (1, 19, 0, 0, 11, 0), (1, 22, 0, 0, 250, 0), (1, 25, 0, 0, 250, 0), (1, 28, 0, -999, 2147483647, 0), (1, 31, 0, 0, 2147483647, 0), (1, 34, 0, -2147483648, 2147483647, 0), (1, 37, 0, 0, 59, 0), (1, 13, 0, 1, 2147483647, 0), (1, 21023, 0, -2147483648, 2147483647, 0), (1, 0, 0, 0, 2147483647, 0), (1, 3, 0, 0, 250, 0), (3, 37, 28, 0, 2147483647, 0), (2, 0, 31, 1, 0, 0), (2, 3, 22, 1, 0, 0)], 0, 0), (32, [(72, 37, 60, 0)]))]
def kd_X10_wouldCome_05c64d_38 : List (Nat × sf_D × sf_M) := [(144, ([(1, 10, 0), (0, 0, 0), (0, 0, 0), (0, 0, 0), (0, 0, 0), (0, 0, 0), (0, 0, 0), (0, 0, 0), (0, 0, 0), (0, 0, 0), (0, 0, 0), (0, 0, 0), (0, 0, 0), (8, 0, 0)], [(0, 0, 0), (0, 0, 0), (0, 0, 0)], [(1, 4, 0, 0, 5, 0), (1, 7, 0, 0, 1, 0), (1, 10, 0, 0, 999, 0), (1, 16, 0, 0, 11, 0), (1, 19, 0, 0, 11, 0), (1, 22, 0, 0, 250, 0), (1, 25, 0, 0, 250, 0), (1, 28, 0, -999, 2147483647, 0), (1, 31, 0, 0, 2147483647, 0), (1, 34, 0, -2147483648, 2147483647, 0), (1, 37, 0, 0, 59, 0), (1, 13, 0, 1, 2147483647, 0), (1, 21023, 0, -2147483648, 2147483647, 0), (1, 0, 0, 0, 2147483647, 0), (1, 3, 0, 0, 250, 0), (1, 6, 0, -999, 2147483647, 0), (3, 37, 28, 0, 2147483647, 0), (2, 0, 31, 1, 0, 0), (2, 3, 22, 1, 0, 0), (2, 6, 28, 1, 0, 0)], 0, 0), (31, [(72, 37, 60, 0)]))]
def kd_X10_wouldCome_05c64d_39 : List (Nat × sf_D × sf_M) := [(145, ([(1, 10, 0), (0, 0, 0), (0, 0, 0), (0, 0, 0), (0, 0, 0), (0, 0, 0), (0, 0, 0), (0, 0, 0), (0, 0, 0), (0, 0, 0), (0, 0, 0), (0, 0, 0), (0, 0, 0), (8, 0, 0)], [(0, 0, 0), (0, 0, 0)], [(1, 4, 0, 0, 5, 0), (1, 7, 0, 0, 1, 0), (1, 10, 0, 0, 999, 0), (1, 16, 0, 0, 11, 0), (1, 19, 0, 0, 11, 0), (1, 22, 0, 0, 250, 0), (1, 25, 0, 0, 250, 0), (1, 28, 0, -999, 2147483647, 0), (1, 31, 0, 0, 2147483647, 0), (1, 34, 0, -2147483648, 2147483647, 0), (1, 37, 0, 0, 59, 0), (1, 13, 0, 1, 2147483647, 0), (1, 21023, 0, -2147483648, 2147483647, 0), (1, 0, 0, 0, 2147483647, 0), (1, 3, 0, -2147483647, 1249, 0), (2, 0, 31, 1, 0, 0), (3, 37, 28, 0, 2147483647, 0)], 0, 0), (30, [(72, 37, 60, 0)]))]
def kd_X10_wouldCome_05c64d_40 : List (Nat × sf_D × sf_M) := [(146, ([(1, 10, 0), (0, 0, 0), (0, 0, 0), (0, 0, 0), (0, 0, 0), (0, 0, 0), (0, 0, 0), (0, 0, 0), (0, 0, 0), (0, 0, 0), (0, 0, 0), (0, 0, 0), (0, 0, 0), (8, 0, 0)], [(1, 10, 0), (0, 0, 0), (0, 0, 0)], [(1, 4, 0, 0, 5, 0), (1, 7, 0, 0, 1, 0), (1, 10, 0, 0, 999, 0), (1, 16, 0, 0, 11, 0), (1, 19, 0, 0, 11, 0), (1, 22, 0, 0, 250, 0), (1, 25, 0, 0, 250, 0), (1, 28, 0, -999, 2147483647, 0), (1, 31, 0, 0, 2147483647, 0), (1, 34, 0, -2147483648, 2147483647, 0), (1, 37, 0, 0, 59, 0), (1, 13, 0, 1, 2147483647, 0), (1, 21023, 0, -2147483648, 2147483647, 0), (1, 0, 0, 0, 2147483647, 0), (1, 3, 0, -2147483647, 1249, 0), (2, 0, 31, 1, 0, 0), (3, 37, 28, 0, 2147483647, 0)], 0, 0), (29, [(72, 37, 60, 0)]))]
def kd_X10_wouldCome_05c64d_41 : List (Nat × sf_D × sf_M) := [(149, ([(1, 10, 0), (0, 0, 0), (0, 0, 0), (0, 0, 0), (0, 0, 0), (0, 0, 0), (0, 0, 0), (0, 0, 0), (0, 0, 0), (0, 0, 0), (0, 0, 0), (0, 0, 0), (0, 0, 0), (8, 0, 0)], [(1, 129, 0), (0, 0, 0), (0, 0, 0)], [(1, 4, 0, 0, 5, 0), (1, 7, 0, 0, 1, 0), (1, 10, 0, 0, 999, 0), (1, 16, 0, 0, 11, 0), (1, 19, 0, 0, 11, 0), (1, 22, 0, 0, 250, 0), (1, 25, 0, 0, 250, 0), (1, 28, 0, -999, 2147483647, 0), (1, 31, 0, 0, 2147483647, 0), (1, 34, 0, -2147483648, 2147483647, 0), (1, 37, 0, 0, 59, 0), (1, 13, 0, 1, 2147483647, 0), (1, 21023, 0, -2147483648, 2147483647, 0), (1, 0, 0, 0, 2147483647, 0), (1, 3, 0, -2147483647, 1249, 0), (2, 0, 31, 1, 0, 0), (3, 37, 28, 0, 2147483647, 0)], 0, 0), (28, [(72, 37, 60, 0)]))]
def kd_X10_wouldCome_05c64d_42 : List (Nat × sf_D × sf_M) := [(151, ([(1, 10, 0), (0, 0, 0), (0, 0, 0), (0, 0, 0), (0, 0, 0), (0, 0, 0), (0, 0, 0), (0, 0, 0), (0, 0, 0), (0, 0, 0), (0, 0, 0), (0, 0, 0), (0, 0, 0), (8, 0, 0)], [(0, 0, 0), (1, 129, 0), (0, 0, 0), (0, 0, 0)], [(1, 4, 0, 0, 5, 0), (1, 7, 0, 0, 1, 0), (1, 10, 0, 0, 999, 0), (1, 16, 0, 0, 11, 0), (1, 19, 0, 0, 11, 0), (1, 22, 0, 0, 250, 0), (1, 25, 0, 0, 250, 0), (1, 28, 0, -999, 2147483647, 0), (1, 31, 0, 0, 2147483647, 0), (1, 34, 0, -2147483648, 2147483647, 0), (1, 37, 0, 0, 59, 0), (1, 13, 0, 1, 2147483647, 0), (1, 21023, 0, -2147483648, 2147483647, 0), (1, 0, 0, 0, 2147483647, 0), (1, 3, 0, -2147483647, 1249, 0), (1, 9, 0, 0, 59, 0), (2, 0, 31, 1, 0, 0), (3, 37, 28, 0, 2147483647, 0), (2, 9, 37, 1, 0, 0)], 0, 0), (27, [(72, 37, 60, 0)]))]
def kd_X10_wouldCome_05c64d_43 : List (Nat × sf_D × sf_M) := [(152, ([(1, 10, 0), (0, 0, 0), (0, 0, 0), (0, 0, 0), (0, 0, 0), (0, 0, 0), (0, 0, 0), (0, 0, 0), (0, 0, 0), (0, 0, 0), (0, 0, 0), (0, 0, 0), (0, 0, 0), (8, 0, 0)], [(0, 0, 0), (0, 0, 0), (0, 0, 0)], [(1, 4, 0, 0, 5, 0), (1, 7, 0, 0, 1, 0), (1, 10, 0, 0, 999, 0), (1, 16, 0, 0, 11, 0), (1, 19, 0, 0, 11, 0), (1, 22, 0, 0, 250, 0), (1, 25, 0, 0, 250, 0), (1, 28, 0, -999, 2147483647, 0), (1, 31, 0, 0, 2147483647, 0), (1, 34, 0, -2147483648, 2147483647, 0), (1, 37, 0, 0, 59, 0), (1, 13, 0, 1, 2147483647, 0), (1, 21023, 0, -2147483648, 2147483647, 0), (1, 0, 0, 0, 2147483647, 0), (1, 3, 0, -2147483647, 1249, 0), (1, 6, 0, -2147483648, 2147483647, 0), (2, 0, 31, 1, 0, 0), (3, 37, 28, 0, 2147483647, 0)], 0, 0), (26, [(72, 37, 60, 0)]))]
def kd_X10_wouldCome_05c64d_44 : List (Nat × sf_D × sf_M) := [(155, ([(1, 10, 0), (0, 0, 0), (0, 0, 0), (0, 0, 0), (0, 0, 0), (0, 0, 0), (0, 0, 0), (0, 0, 0), (0, 0, 0), (0, 0, 0), (0, 0, 0), (0, 0, 0), (0, 0, 0), (8, 0, 0)], [(0, 0, 0)], [(1, 4, 0, 0, 5, 0), (1, 7, 0, 0, 1, 0), (1, 10, 0, 0, 999, 0), (1, 16, 0, 0, 11, 0), (1, 19, 0, 0, 11, 0), (1, 22, 0, 0, 250, 0), (1, 25, 0, 0, 250, 0), (1, 28, 0, -999, 2147483647, 0), (1, 31, 0, 0, 2147483647, 0), (1, 34, 0, -2147483648, 2147483647, 0), (1, 37, 0, 0, 59, 0), (1, 13, 0, 1, 2147483647, 0), (1, 21023, 0, -2147483648, 2147483647, 0), (1, 0, 0, 0, 2147483647, 0), (3, 37, 28, 0, 2147483647, 0)], 0, 0), (25, [(72, 37, 60, 0)])),
  (157, ([(1, 10, 0), (0, 0, 0), (0, 0, 0), (0, 0, 0), (0, 0, 0), (0, 0, 0), (0, 0, 0), (0, 0, 0), (0, 0, 0), (0, 0, 0), (0, 0, 0), (0, 0, 0), (0, 0, 0), (0, 0, 0)], [], [(1, 4, 0, 0, 5, 0), (1, 7, 0, 0, 1, 0), (1, 10, 0, 0, 999, 0), (1, 16, 0, 0, 11, 0), (1, 19, 0, 0, 11, 0), (1, 22, 0, 0, 250, 0), (1, 25, 0, 0, 250, 0), (1, 28, 0, -999, 2147483647, 0), (1, 31, 0, 0, 2147483647, 0), (1, 34, 0, -2147483648, 2147483647, 0), (1, 37, 0, 0, 59, 0), (1, 13, 0, 1, 2147483647, 0), (1, 21023, 0, -2147483648, 2147483647, 0), (1, 40, 0, 0, 2147483647, 0), (3, 37, 28, 0, 2147483647, 0)], 0, 0), (24, [(72, 37, 60, 0)]))]
def kd_X10_wouldCome_05c64d_45 : List (Nat × sf_D × sf_M) := [(159, ([(1, 10, 0), (0, 0, 0), (0, 0, 0), (0, 0, 0), (0, 0, 0), (0, 0, 0), (0, 0, 0), (0, 0, 0), (0, 0, 0), (0, 0, 0), (0, 0, 0), (0, 0, 0), (0, 0, 0), (0, 0, 0)], [(0, 0, 0)], [(1, 4, 0, 0, 5, 0), (1, 7, 0, 0, 1, 0), (1, 10, 0, 0, 999, 0), (1, 16, 0, 0, 11, 0), (1, 19, 0, 0, 11, 0), (1, 22, 0, 0, 250, 0), (1, 25, 0, 0, 250, 0), (1, 28, 0, -999, 2147483647, 0), (1, 31, 0, 0, 2147483647, 0), (1, 34, 0, -2147483648, 2147483647, 0), (1, 37, 0, 0, 59, 0), (1, 13, 0, 1, 2147483647, 0), (1, 21023, 0, -2147483648, 2147483647, 0), (1, 40, 0, 0, 2147483647, 0), (1, 0, 0, -999, 2147483647, 0), (3, 37, 28, 0, 2147483647, 0), (2, 0, 28, 1, 0, 0)], 0, 0), (23, [(72, 37, 60, 0)]))]
def kd_X10_wouldCome_05c64d_46 : List (Nat × sf_D × sf_M) := [(161, ([(1, 10, 0), (0, 0, 0), (0, 0, 0), (0, 0, 0), (0, 0, 0), (0, 0, 0), (0, 0, 0), (0, 0, 0), (0, 0, 0), (0, 0, 0), (0, 0, 0), (0, 0, 0), (0, 0, 0), (0, 0, 0)], [(0, 0, 0), (0, 0, 0)], [(1, 4, 0, 0, 5, 0), (1, 7, 0, 0, 1, 0), (1, 10, 0, 0, 999, 0), (1, 16, 0, 0, 11, 0), (1, 19, 0, 0, 11, 0), (1, 22, 0, 0, 250, 0), (1, 25, 0, 0, 250, 0), (1, 28, 0, -999, 2147483647, 0), (1, 31, 0, 0, 2147483647, 0), (1, 34, 0, -2147483648, 2147483647, 0), (1, 37, 0, 0, 59, 0), (1, 13, 0, 1, 2147483647, 0), (1, 21023, 0, -2147483648, 2147483647, 0), (1, 40, 0, 0, 2147483647, 0), (1, 0, 0, -999, 2147483647, 0), (1, 3, 0, 0, 2147483647, 0), (3, 37, 28, 0, 2147483647, 0), (2, 0, 28, 1, 0, 0), (2, 3, 40, 1, 0, 0)], 0, 0), (22, [(72, 37, 60, 0)]))]
def kd_X10_wouldCome_05c64d_47 : List (Nat × sf_D × sf_M) := [(162, ([(1, 10, 0), (0, 0, 0), (0, 0, 0), (0, 0, 0), (0, 0, 0), (0, 0, 0), (0, 0, 0), (0, 0, 0), (0, 0, 0), (0, 0, 0), (0, 0, 0), (0, 0, 0), (0, 0, 0), (0, 0, 0)], [(0, 0, 0)], [(1, 4, 0, 0, 5, 0), (1, 7, 0, 0, 1, 0), (1, 10, 0, 0, 999, 0), (1, 16, 0, 0, 11, 0), (1, 19, 0, 0, 11, 0), (1, 22, 0, 0, 250, 0), (1, 25, 0, 0, 250, 0), (1, 28, 0, -999, 2147483647, 0), (1, 31, 0, 0, 2147483647, 0), (1, 34, 0, -2147483648, 2147483647, 0), (1, 37, 0, 0, 59, 0), (1, 13, 0, 1, 2147483647, 0), (1, 21023, 0, -2147483648, 2147483647, 0), (1, 40, 0, 0, 2147483647, 0), (1, 0, 0, -2147483648, 2147483647, 0), (3, 37, 28, 0, 2147483647, 0)], 0, 0), (21, [(72, 37, 60, 0)])),
  (164, ([(1, 10, 0), (0, 0, 0), (0, 0, 0), (0, 0, 0), (0, 0, 0), (0, 0, 0), (0, 0, 0), (0, 0, 0), (0, 0, 0), (0, 0, 0), (0, 0, 0), (0, 0, 0), (0, 0, 0), (0, 0, 0)], [], [(1, 4, 0, 0, 5, 0), (1, 7, 0, 0, 1, 0), (1, 10, 0, 0, 999, 0), (1, 16, 0, 0, 11, 0), (1, 19, 0, 0, 11, 0), (1, 22, 0, 0, 250, 0), (1, 25, 0, 0, 250, 0), (1, 31, 0, 0, 2147483647, 0), (1, 34, 0, -2147483648, 2147483647, 0), (1, 37, 0, 0, 59, 0), (1, 13, 0, 1, 2147483647, 0), (1, 21023, 0, -2147483648, 2147483647, 0), (1, 40, 0, 0, 2147483647, 0), (1, 28, 0, -2147483648, 2147483647, 0)], 0, 0), (20, [(72, 37, 60, 0)]))]
def kd_X10_wouldCome_05c64d_48 : List (Nat × sf_D × sf_M) := [(166, ([(1, 10, 0), (0, 0, 0), (0, 0, 0), (0, 0, 0), (0, 0, 0), (0, 0, 0), (0, 0, 0), (0, 0, 0), (0, 0, 0), (0, 0, 0), (0, 0, 0), (0, 0, 0), (0, 0, 0), (0, 0, 0)], [(0, 0, 0)], [(1, 4, 0, 0, 5, 0), (1, 7, 0, 0, 1, 0), (1, 10, 0, 0, 999, 0), (1, 16, 0, 0, 11, 0), (1, 19, 0, 0, 11, 0), (1, 22, 0, 0, 250, 0), (1, 25, 0, 0, 250, 0), (1, 31, 0, 0, 2147483647, 0), (1, 34, 0, -2147483648, 2147483647, 0), (1, 37, 0, 0, 59, 0), (1, 13, 0, 1, 2147483647, 0), (1, 21023, 0, -2147483648, 2147483647, 0), (1, 40, 0, 0, 2147483647, 0), (1, 28, 0, -2147483648, 2147483647, 0), (1, 0, 0, 0, 2147483647, 0), (2, 0, 31, 1, 0, 0)], 0, 0), (19, [(72, 37, 60, 0)]))]
def kd_X10_wouldCome_05c64d_49 : List (Nat × sf_D × sf_M) := [(168, ([(1, 10, 0), (0, 0, 0), (0, 0, 0), (0, 0, 0), (0, 0, 0), (0, 0, 0), (0, 0, 0), (0, 0, 0), (0, 0, 0), (0, 0, 0), (0, 0, 0), (0, 0, 0), (0, 0, 0), (0, 0, 0)], [(0, 0, 0), (0, 0, 0)], [(1, 4, 0, 0, 5, 0), (1, 7, 0, 0, 1, 0), (1, 10, 0, 0, 999, 0), (1, 16, 0, 0, 11, 0), (1, 19, 0, 0, 11, 0), (1, 22, 0, 0, 250, 0), (1, 25, 0, 0, 250, 0), (1, 31, 0, 0, 2147483647, 0), (1, 34, 0, -2147483648, 2147483647, 0), (1, 37, 0, 0, 59, 0), (1, 13, 0, 1, 2147483647, 0), (1, 21023, 0, -2147483648, 2147483647, 0), (1, 40, 0, 0, 2147483647, 0), (1, 28, 0, -2147483648, 2147483647, 0), (1, 0, 0, 0, 2147483647, 0), (1, 3, 0, 0, 2147483647, 0), (2, 0, 31, 1, 0, 0), (2, 3, 40, 1, 0, 0)], 0, 0), (18, [(72, 37, 60, 0)]))]
def kd_X10_wouldCome_05c64d_50 : List (Nat × sf_D × sf_M) := [(169, ([(1, 10, 0), (0, 0, 0), (0, 0, 0), (0, 0, 0), (0, 0, 0), (0, 0, 0), (0, 0, 0), (0, 0, 0), (0, 0, 0), (0, 0, 0), (0, 0, 0), (0, 0, 0), (0, 0, 0), (0, 0, 0)], [(0, 0, 0)], [(1, 4, 0, 0, 5, 0), (1, 7, 0, 0, 1, 0), (1, 10, 0, 0, 999, 0), (1, 16, 0, 0, 11, 0), (1, 19, 0, 0, 11, 0), (1, 22, 0, 0, 250, 0), (1, 25, 0, 0, 250, 0), (1, 31, 0, 0, 2147483647, 0), (1, 34, 0, -2147483648, 2147483647, 0), (1, 37, 0, 0, 59, 0), (1, 13, 0, 1, 2147483647, 0), (1, 21023, 0, -2147483648, 2147483647, 0), (1, 40, 0, 0, 2147483647, 0), (1, 28, 0, -2147483648, 2147483647, 0), (1, 0, 0, -2147483647, 2147483647, 0)], 0, 0), (17, [(72, 37, 60, 0)])),
  (171, ([(1, 10, 0), (0, 0, 0), (0, 0, 0), (0, 0, 0), (0, 0, 0), (0, 0, 0), (0, 0, 0), (0, 0, 0), (0, 0, 0), (0, 0, 0), (0, 0, 0), (0, 0, 0), (0, 0, 0), (0, 0, 0)], [], [(1, 4, 0, 0, 5, 0), (1, 7, 0, 0, 1, 0), (1, 10, 0, 0, 999, 0), (1, 16, 0, 0, 11, 0), (1, 19, 0, 0, 11, 0), (1, 22, 0, 0, 250, 0), (1, 25, 0, 0, 250, 0), (1, 34, 0, -2147483648, 2147483647, 0), (1, 37, 0, 0, 59, 0), (1, 13, 0, 1, 2147483647, 0), (1, 21023, 0, -2147483648, 2147483647, 0), (1, 40, 0, 0, 2147483647, 0), (1, 28, 0, -2147483648, 2147483647, 0), (1, 31, 0, -2147483647, 2147483647, 0)], 0, 0), (16, [(72, 37, 60, 0)]))]
def kd_X10_wouldCome_05c64d_51 : List (Nat × sf_D × sf_M) := [(173, ([(1, 10, 0), (0, 0, 0), (0, 0, 0), (0, 0, 0), (0, 0, 0), (0, 0, 0), (0, 0, 0), (0, 0, 0), (0, 0, 0), (0, 0, 0), (0, 0, 0), (0, 0, 0), (0, 0, 0), (0, 0, 0)], [(0, 0, 0)], [(1, 4, 0, 0, 5, 0), (1, 7, 0, 0, 1, 0), (1, 10, 0, 0, 999, 0), (1, 16, 0, 0, 11, 0), (1, 19, 0, 0, 11, 0), (1, 22, 0, 0, 250, 0), (1, 25, 0, 0, 250, 0), (1, 34, 0, -2147483648, 2147483647, 0), (1, 37, 0, 0, 59, 0), (1, 13, 0, 1, 2147483647, 0), (1, 21023, 0, -2147483648, 2147483647, 0), (1, 40, 0, 0, 2147483647, 0), (1, 28, 0, -2147483648, 2147483647, 0), (1, 31, 0, -2147483647, 2147483647, 0), (1, 0, 0, -2147483648, 2147483647, 0), (2, 0, 34, 1, 0, 0)], 0, 0), (15, [(72, 37, 60, 0)]))]
def kd_X10_wouldCome_05c64d_52 : List (Nat × sf_D × sf_M) := [(175, ([(1, 10, 0), (0, 0, 0), (0, 0, 0), (0, 0, 0), (0, 0, 0), (0, 0, 0), (0, 0, 0), (0, 0, 0), (0, 0, 0), (0, 0, 0), (0, 0, 0), (0, 0, 0), (0, 0, 0), (0, 0, 0)], [(0, 0, 0), (0, 0, 0)], [(1, 4, 0, 0, 5, 0), (1, 7, 0, 0, 1, 0), (1, 10, 0, 0, 999, 0), (1, 16, 0, 0, 11, 0), (1, 19, 0, 0, 11, 0), (1, 22, 0, 0, 250, 0), (1, 25, 0, 0, 250, 0), (1, 34, 0, -2147483648, 2147483647, 0), (1, 37, 0, 0, 59, 0), (1, 13, 0, 1, 2147483647, 0), (1, 21023, 0, -2147483648, 2147483647, 0), (1, 40, 0, 0, 2147483647, 0), (1, 28, 0, -2147483648, 2147483647, 0), (1, 31, 0, -2147483647, 2147483647, 0), (1, 0, 0, -2147483648, 2147483647, 0), (1, 3, 0, 0, 2147483647, 0), (2, 0, 34, 1, 0, 0), (2, 3, 40, 1, 0, 0)], 0, 0), (14, [(72, 37, 60, 0)]))]
def kd_X10_wouldCome_05c64d_53 : List (Nat × sf_D × sf_M) := [(176, ([(1, 10, 0), (0, 0, 0), (0, 0, 0), (0, 0, 0), (0, 0, 0), (0, 0, 0), (0, 0, 0), (0, 0, 0), (0, 0, 0), (0, 0, 0), (0, 0, 0), (0, 0, 0), (0, 0, 0), (0, 0, 0)], [(0, 0, 0)], [(1, 4, 0, 0, 5, 0), (1, 7, 0, 0, 1, 0), (1, 10, 0, 0, 999, 0), (1, 16, 0, 0, 11, 0), (1, 19, 0, 0, 11, 0), (1, 22, 0, 0, 250, 0), (1, 25, 0, 0, 250, 0), (1, 34, 0, -2147483648, 2147483647, 0), (1, 37, 0, 0, 59, 0), (1, 13, 0, 1, 2147483647, 0), (1, 21023, 0, -2147483648, 2147483647, 0), (1, 40, 0, 0, 2147483647, 0), (1, 28, 0, -2147483648, 2147483647, 0), (1, 31, 0, -2147483647, 2147483647, 0), (1, 0, 0, -2147483648, 2147483647, 0)], 0, 0), (13, [(72, 37, 60, 0)])),
  (178, ([(1, 10, 0), (0, 0, 0), (0, 0, 0), (0, 0, 0), (0, 0, 0), (0, 0, 0), (0, 0, 0), (0, 0, 0), (0, 0, 0), (0, 0, 0), (0, 0, 0), (0, 0, 0), (0, 0, 0), (0, 0, 0)], [], [(1, 4, 0, 0, 5, 0), (1, 7, 0, 0, 1, 0), (1, 10, 0, 0, 999, 0), (1, 16, 0, 0, 11, 0), (1, 19, 0, 0, 11, 0), (1, 22, 0, 0, 250, 0), (1, 25, 0, 0, 250, 0), (1, 34, 0, -2147483648, 2147483647, 0), (1, 37, 0, 0, 59, 0), (1, 13, 0, 1, 2147483647, 0), (1, 21023, 0, -2147483648, 2147483647, 0), (1, 40, 0, 0, 2147483647, 0), (1, 28, 0, -2147483648, 2147483647, 0), (1, 31, 0, -2147483648, 2147483647, 0)], 0, 0), (12, [(72, 37, 60, 0)]))]
def kd_X10_wouldCome_05c64d_54 : List (Nat × sf_D × sf_M) := [(179, ([(1, 10, 0), (0, 0, 0), (0, 0, 0), (0, 0, 0), (0, 0, 0), (0, 0, 0), (0, 0, 0), (0, 0, 0), (0, 0, 0), (0, 0, 0), (0, 0, 0), (0, 0, 0), (0, 0, 0), (0, 0, 0)], [(1, 10, 0)], [(1, 4, 0, 0, 5, 0), (1, 7, 0, 0, 1, 0), (1, 10, 0, 0, 999, 0), (1, 16, 0, 0, 11, 0), (1, 19, 0, 0, 11, 0), (1, 22, 0, 0, 250, 0), (1, 25, 0, 0, 250, 0), (1, 34, 0, -2147483648, 2147483647, 0), (1, 37, 0, 0, 59, 0), (1, 13, 0, 1, 2147483647, 0), (1, 21023, 0, -2147483648, 2147483647, 0), (1, 40, 0, 0, 2147483647, 0), (1, 28, 0, -2147483648, 2147483647, 0), (1, 31, 0, -2147483648, 2147483647, 0)], 0, 0), (11, [(72, 37, 60, 0)])),
  (182, ([(1, 10, 0), (0, 0, 0), (0, 0, 0), (0, 0, 0), (0, 0, 0), (0, 0, 0), (0, 0, 0), (0, 0, 0), (0, 0, 0), (0, 0, 0), (0, 0, 0), (0, 0, 0), (0, 0, 0), (0, 0, 0)], [(1, 7, 0)], [(1, 4, 0, 0, 5, 0), (1, 7, 0, 0, 1, 0), (1, 10, 0, 0, 999, 0), (1, 16, 0, 0, 11, 0), (1, 19, 0, 0, 11, 0), (1, 22, 0, 0, 250, 0), (1, 25, 0, 0, 250, 0), (1, 34, 0, -2147483648, 2147483647, 0), (1, 37, 0, 0, 59, 0), (1, 13, 0, 1, 2147483647, 0), (1, 21023, 0, -2147483648, 2147483647, 0), (1, 40, 0, 0, 2147483647, 0), (1, 28, 0, -2147483648, 2147483647, 0), (1, 31, 0, -2147483648, 2147483647, 0)], 0, 0), (10, [(72, 37, 60, 0)]))]
def kd_X10_wouldCome_05c64d_55 : List (Nat × sf_D × sf_M) := [(184, ([(1, 10, 0), (0, 0, 0), (0, 0, 0), (0, 0, 0), (0, 0, 0), (0, 0, 0), (0, 0, 0), (0, 0, 0), (0, 0, 0), (0, 0, 0), (0, 0, 0), (0, 0, 0), (0, 0, 0), (0, 0, 0)], [(0, 0, 0), (1, 7, 0)], [(1, 4, 0, 0, 5, 0), (1, 7, 0, 0, 1, 0), (1, 10, 0, 0, 999, 0), (1, 16, 0, 0, 11, 0), (1, 19, 0, 0, 11, 0), (1, 22, 0, 0, 250, 0), (1, 25, 0, 0, 250, 0), (1, 34, 0, -2147483648, 2147483647, 0), (1, 37, 0, 0, 59, 0), (1, 13, 0, 1, 2147483647, 0), (1, 21023, 0, -2147483648, 2147483647, 0), (1, 40, 0, 0, 2147483647, 0), (1, 28, 0, -2147483648, 2147483647, 0), (1, 31, 0, -2147483648, 2147483647, 0), (1, 3, 0, 0, 11, 0), (2, 3, 16, 1, 0, 0)], 0, 0), (9, [(72, 37, 60, 0)]))]
def kd_X10_wouldCome_05c64d_56 : List (Nat × sf_D × sf_M) := [(186, ([(1, 10, 0), (0, 0, 0), (0, 0, 0), (0, 0, 0), (0, 0, 0), (0, 0, 0), (0, 0, 0), (0, 0, 0), (0, 0, 0), (0, 0, 0), (0, 0, 0), (0, 0, 0), (0, 0, 0), (0, 0, 0)], [(0, 0, 0), (0, 0, 0), (1, 7, 0)], [(1, 4, 0, 0, 5, 0), (1, 7, 0, 0, 1, 0), (1, 10, 0, 0, 999, 0), (1, 16, 0, 0, 11, 0), (1, 19, 0, 0, 11, 0), (1, 22, 0, 0, 250, 0), (1, 25, 0, 0, 250, 0), (1, 34, 0, -2147483648, 2147483647, 0), (1, 37, 0, 0, 59, 0), (1, 13, 0, 1, 2147483647, 0), (1, 21023, 0, -2147483648, 2147483647, 0), (1, 40, 0, 0, 2147483647, 0), (1, 28, 0, -2147483648, 2147483647, 0), (1, 31, 0, -2147483648, 2147483647, 0), (1, 3, 0, 0, 11, 0), (1, 6, 0, -2147483648, 2147483647, 0), (2, 3, 16, 1, 0, 0), (2, 6, 28, 1, 0, 0)], 0, 0), (8, [(72, 37, 60, 0)]))]
def kd_X10_wouldCome_05c64d_57 : List (Nat × sf_D × sf_M) := [(189, ([(1, 10, 0), (0, 0, 0), (0, 0, 0), (0, 0, 0), (0, 0, 0), (0, 0, 0), (0, 0, 0), (0, 0, 0), (0, 0, 0), (0, 0, 0), (0, 0, 0), (0, 0, 0), (0, 0, 0), (0, 0, 0)], [(0, 0, 0)], [(1, 4, 0, 0, 5, 0), (1, 7, 0, 0, 1, 0), (1, 10, 0, 0, 999, 0), (1, 16, 0, 0, 11, 0), (1, 19, 0, 0, 11, 0), (1, 22, 0, 0, 250, 0), (1, 25, 0, 0, 250, 0), (1, 34, 0, -2147483648, 2147483647, 0), (1, 37, 0, 0, 59, 0), (1, 13, 0, 1, 2147483647, 0), (1, 21023, 0, -2147483648, 2147483647, 0), (1, 40, 0, 0, 2147483647, 0), (1, 28, 0, -2147483648, 2147483647, 0), (1, 31, 0, -2147483648, 2147483647, 0), (1, 0, 0, 0, 2147483647, 0)], 0, 0), (7, [(72, 37, 60, 0)])),
  (191, ([(1, 10, 0), (0, 0, 0), (0, 0, 0), (0, 0, 0), (0, 0, 0), (0, 0, 0), (0, 0, 0), (0, 0, 0), (0, 0, 0), (0, 0, 0), (0, 0, 0), (0, 0, 0), (0, 0, 0), (0, 0, 0)], [], [(1, 4, 0, 0, 5, 0), (1, 7, 0, 0, 1, 0), (1, 10, 0, 0, 999, 0), (1, 16, 0, 0, 11, 0), (1, 19, 0, 0, 11, 0), (1, 22, 0, 0, 250, 0), (1, 25, 0, 0, 250, 0), (1, 34, 0, -2147483648, 2147483647, 0), (1, 37, 0, 0, 59, 0), (1, 13, 0, 1, 2147483647, 0), (1, 21023, 0, -2147483648, 2147483647, 0), (1, 40, 0, 0, 2147483647, 0), (1, 31, 0, -2147483648, 2147483647, 0), (1, 28, 0, 0, 2147483647, 0)], 0, 0), (6, [(72, 37, 60, 0)]))]
def kd_X10_wouldCome_05c64d_58 : List (Nat × sf_D × sf_M) := [(192, ([(1, 10, 0), (0, 0, 0), (0, 0, 0), (0, 0, 0), (0, 0, 0), (0, 0, 0), (0, 0, 0), (0, 0, 0), (0, 0, 0), (0, 0, 0), (0, 0, 0), (0, 0, 0), (0, 0, 0), (0, 0, 0)], [(1, 10, 0)], [(1, 4, 0, 0, 5, 0), (1, 7, 0, 0, 1, 0), (1, 10, 0, 0, 999, 0), (1, 16, 0, 0, 11, 0), (1, 19, 0, 0, 11, 0), (1, 22, 0, 0, 250, 0), (1, 25, 0, 0, 250, 0), (1, 34, 0, -2147483648, 2147483647, 0), (1, 37, 0, 0, 59, 0), (1, 13, 0, 1, 2147483647, 0), (1, 21023, 0, -2147483648, 2147483647, 0), (1, 40, 0, 0, 2147483647, 0), (1, 31, 0, -2147483648, 2147483647, 0), (1, 28, 0, 0, 2147483647, 0)], 0, 0), (5, [(72, 37, 60, 0)])),
  (195, ([(1, 10, 0), (0, 0, 0), (0, 0, 0), (0, 0, 0), (0, 0, 0), (0, 0, 0), (0, 0, 0), (0, 0, 0), (0, 0, 0), (0, 0, 0), (0, 0, 0), (0, 0, 0), (0, 0, 0), (0, 0, 0)], [(1, 7, 0)], [(1, 4, 0, 0, 5, 0), (1, 7, 0, 0, 1, 0), (1, 10, 0, 0, 999, 0), (1, 16, 0, 0, 11, 0), (1, 19, 0, 0, 11, 0), (1, 22, 0, 0, 250, 0), (1, 25, 0, 0, 250, 0), (1, 34, 0, -2147483648, 2147483647, 0), (1, 37, 0, 0, 59, 0), (1, 13, 0, 1, 2147483647, 0), (1, 21023, 0, -2147483648, 2147483647, 0), (1, 40, 0, 0, 2147483647, 0), (1, 31, 0, -2147483648, 2147483647, 0), (1, 28, 0, 0, 2147483647, 0)], 0, 0), (4, [(72, 37, 60, 0)]))]
def kd_X10_wouldCome_05c64d_59 : List (Nat × sf_D × sf_M) := [(197, ([(1, 10, 0), (0, 0, 0), (0, 0, 0), (0, 0, 0), (0, 0, 0), (0, 0, 0), (0, 0, 0), (0, 0, 0), (0, 0, 0), (0, 0, 0), (0, 0, 0), (0, 0, 0), (0, 0, 0), (0, 0, 0)], [(0, 0, 0), (1, 7, 0)], [(1, 4, 0, 0, 5, 0), (1, 7, 0, 0, 1, 0), (1, 10, 0, 0, 999, 0), (1, 16, 0, 0, 11, 0), (1, 19, 0, 0, 11, 0), (1, 22, 0, 0, 250, 0), (1, 25, 0, 0, 250, 0), (1, 34, 0, -2147483648, 2147483647, 0), (1, 37, 0, 0, 59, 0), (1, 13, 0, 1, 2147483647, 0), (1, 21023, 0, -2147483648, 2147483647, 0), (1, 40, 0, 0, 2147483647, 0), (1, 31, 0, -2147483648, 2147483647, 0), (1, 28, 0, 0, 2147483647, 0), (1, 3, 0, 0, 11, 0), (2, 3, 19, 1, 0, 0)], 0, 0), (3, [(72, 37, 60, 0)]))]
def kd_X10_wouldCome_05c64d_60 : List (Nat × sf_D × sf_M) := [(199, ([(1, 10, 0), (0, 0, 0), (0, 0, 0), (0, 0, 0), (0, 0, 0), (0, 0, 0), (0, 0, 0), (0, 0, 0), (0, 0, 0), (0, 0, 0), (0, 0, 0), (0, 0, 0), (0, 0, 0), (0, 0, 0)], [(0, 0, 0), (0, 0, 0), (1, 7, 0)], [(1, 4, 0, 0, 5, 0), (1, 7, 0, 0, 1, 0), (1, 10, 0, 0, 999, 0), (1, 16, 0, 0, 11, 0), (1, 19, 0, 0, 11, 0), (1, 22, 0, 0, 250, 0), (1, 25, 0, 0, 250, 0), (1, 34, 0, -2147483648, 2147483647, 0), (1, 37, 0, 0, 59, 0), (1, 13, 0, 1, 2147483647, 0), (1, 21023, 0, -2147483648, 2147483647, 0), (1, 40, 0, 0, 2147483647, 0), (1, 31, 0, -2147483648, 2147483647, 0), (1, 28, 0, 0, 2147483647, 0), (1, 3, 0, 0, 11, 0), (1, 6, 0, -2147483648, 2147483647, 0), (2, 3, 19, 1, 0, 0), (2, 6, 31, 1, 0, 0)], 0, 0), (2, [(72, 37, 60, 0)]))]
def kd_X10_wouldCome_05c64d_61 : List (Nat × sf_D × sf_M) := [(202, ([(1, 10, 0), (0, 0, 0), (0, 0, 0), (0, 0, 0), (0, 0, 0), (0, 0, 0), (0, 0, 0), (0, 0, 0), (0, 0, 0), (0, 0, 0), (0, 0, 0), (0, 0, 0), (0, 0, 0), (0, 0, 0)], [(0, 0, 0)], [(1, 4, 0, 0, 5, 0), (1, 7, 0, 0, 1, 0), (1, 10, 0, 0, 999, 0), (1, 16, 0, 0, 11, 0), (1, 19, 0, 0, 11, 0), (1, 22, 0, 0, 250, 0), (1, 25, 0, 0, 250, 0), (1, 34, 0, -2147483648, 2147483647, 0), (1, 37, 0, 0, 59, 0), (1, 13, 0, 1, 2147483647, 0), (1, 21023, 0, -2147483648, 2147483647, 0), (1, 40, 0, 0, 2147483647, 0), (1, 31, 0, -2147483648, 2147483647, 0), (1, 28, 0, 0, 2147483647, 0), (1, 0, 0, 0, 2147483647, 0)], 0, 0), (1, [(72, 37, 60, 0)])),
  (204, ([(1, 10, 0), (0, 0, 0), (0, 0, 0), (0, 0, 0), (0, 0, 0), (0, 0, 0), (0, 0, 0), (0, 0, 0), (0, 0, 0), (0, 0, 0), (0, 0, 0), (0, 0, 0), (0, 0, 0), (0, 0, 0)], [], [(1, 4, 0, 0, 5, 0), (1, 7, 0, 0, 1, 0), (1, 10, 0, 0, 999, 0), (1, 16, 0, 0, 11, 0), (1, 19, 0, 0, 11, 0), (1, 22, 0, 0, 250, 0), (1, 25, 0, 0, 250, 0), (1, 34, 0, -2147483648, 2147483647, 0), (1, 37, 0, 0, 59, 0), (1, 13, 0, 1, 2147483647, 0), (1, 21023, 0, -2147483648, 2147483647, 0), (1, 40, 0, 0, 2147483647, 0), (1, 28, 0, 0, 2147483647, 0), (1, 31, 0, 0, 2147483647, 0)], 0, 0), (0, [(72, 37, 60, 0)]))]
def kd_X10_wouldCome_05c64d_62 : List (Nat × sf_D × sf_M) := [(207, ([(1, 10, 0), (0, 0, 0), (0, 0, 0), (0, 0, 0), (0, 0, 0), (0, 0, 0), (0, 0, 0), (0, 0, 0), (0, 0, 0), (0, 0, 0), (0, 0, 0), (0, 0, 0), (0, 0, 0), (0, 0, 0)], [], [(1, 4, 0, 0, 5, 0), (1, 7, 0, 0, 1, 0), (1, 10, 0, 0, 999, 0), (1, 16, 0, 0, 11, 0), (1, 19, 0, 0, 11, 0), (1, 22, 0, 0, 250, 0), (1, 25, 0, 0, 250, 0), (1, 34, 0, -2147483648, 2147483647, 0), (1, 13, 0, 1, 2147483647, 0), (1, 21023, 0, -2147483648, 2147483647, 0), (1, 40, 0, 0, 2147483647, 0), (1, 28, 0, 0, 2147483647, 0), (1, 31, 0, 0, 2147483647, 0), (1, 37, 0, 1, 60, 0)], 0, 0), (50, [(72, 37, 60, 0)])),
  (210, ([(1, 10, 0), (0, 0, 0), (0, 0, 0), (0, 0, 0), (0, 0, 0), (0, 0, 0), (0, 0, 0), (0, 0, 0), (0, 0, 0), (0, 0, 0), (0, 0, 0), (0, 0, 0), (0, 0, 0), (8, 0, 0)], [], [(1, 4, 0, 0, 5, 0), (1, 7, 0, 0, 1, 0), (1, 10, 0, 0, 999, 0), (1, 16, 0, 0, 11, 0), (1, 19, 0, 0, 11, 0), (1, 22, 0, 0, 250, 0), (1, 25, 0, 0, 250, 0), (1, 28, 0, -999, 2147483647, 0), (1, 31, 0, 0, 2147483647, 0), (1, 34, 0, -2147483648, 2147483647, 0), (1, 37, 0, 0, 60, 0), (1, 13, 0, -2147483648, 2147483647, 0), (3, 37, 28, 0, 2147483647, 0), (3, 37, 13, 1, 2147483647, 0)], 0, 0), (1, []))]
def kd_X10_wouldCome_05c64d_63 : List (Nat × sf_D × sf_M) := [(212, ([(1, 10, 0), (0, 0, 0), (0, 0, 0), (0, 0, 0), (0, 0, 0), (0, 0, 0), (0, 0, 0), (0, 0, 0), (0, 0, 0), (0, 0, 0), (0, 0, 0), (0, 0, 0), (0, 0, 0), (8, 0, 0)], [(0, 0, 0)], [(1, 4, 0, 0, 5, 0), (1, 7, 0, 0, 1, 0), (1, 10, 0, 0, 999, 0), (1, 16, 0, 0, 11, 0), (1, 19, 0, 0, 11, 0), (1, 22, 0, 0, 250, 0), (1, 25, 0, 0, 250, 0), (1, 28, 0, -999, 2147483647, 0), (1, 31, 0, 0, 2147483647, 0), (1, 34, 0, -2147483648, 2147483647, 0), (1, 37, 0, 0, 60, 0), (1, 13, 0, -2147483648, 2147483647, 0), (1, 0, 0, -2147483648, 2147483647, 0), (3, 37, 28, 0, 2147483647, 0), (3, 37, 13, 1, 2147483647, 0), (2, 0, 34, 1, 0, 0)], 0, 0), (0, []))]
def kd_X10_wouldCome_05c64d : List (Nat × sf_D × sf_M) := kd_X10_wouldCome_05c64d_0 ++ (kd_X10_wouldCome_05c64d_1 ++ (kd_X10_wouldCome_05c64d_2 ++ (kd_X10_wouldCome_05c64d_3 ++ (kd_X10_wouldCome_05c64d_4 ++ (kd_X10_wouldCome_05c64d_5 ++ (kd_X10_wouldCome_05c64d_6 ++ (kd_X10_wouldCome_05c64d_7 ++ (kd_X10_wouldCome_05c64d_8 ++ (kd_X10_wouldCome_05c64d_9 ++ (kd_X10_wouldCome_05c64d_10 ++ (kd_X10_wouldCome_05c64d_11 ++ (kd_X10_wouldCome_05c64d_12 ++ (kd_X10_wouldCome_05c64d_13 ++ (kd_X10_wouldCome_05c64d_14 ++ (kd_X10_wouldCome_05c64d_15 ++ (kd_X10_wouldCome_05c64d_16 ++ (kd_X10_wouldCome_05c64d_17 ++ (kd_X10_wouldCome_05c64d_18 ++ (kd_X10_wouldCome_05c64d_19 ++ (kd_X10_wouldCome_05c64d_20 ++ (kd_X10_wouldCome_05c64d_21 ++ (kd_X10_wouldCome_05c64d_22 ++ (kd_X10_wouldCome_05c64d_23 ++ (kd_X10_wouldCome_05c64d_24 ++ (kd_X10_wouldCome_05c64d_25 ++ (kd_X10_wouldCome_05c64d_26 ++ (kd_X10_wouldCome_05c64d_27 ++ (kd_X10_wouldCome_05c64d_28 ++ (kd_X10_wouldCome_05c64d_29 ++ (kd_X10_wouldCome_05c64d_30 ++ (kd_X10_wouldCome_05c64d_31 ++ (kd_X10_wouldCome_05c64d_32 ++ (kd_X10_wouldCome_05c64d_33 ++ (kd_X10_wouldCome_05c64d_34 ++ (kd_X10_wouldCome_05c64d_35 ++ (kd_X10_wouldCome_05c64d_36 ++ (kd_X10_wouldCome_05c64d_37 ++ (kd_X10_wouldCome_05c64d_38 ++ (kd_X10_wouldCome_05c64d_39 ++ (kd_X10_wouldCome_05c64d_40 ++ (kd_X10_wouldCome_05c64d_41 ++ (kd_X10_wouldCome_05c64d_42 ++ (kd_X10_wouldCome_05c64d_43 ++ (kd_X10_wouldCome_05c64d_44 ++ (kd_X10_wouldCome_05c64d_45 ++ (kd_X10_wouldCome_05c64d_46 ++ (kd_X10_wouldCome_05c64d_47 ++ (kd_X10_wouldCome_05c64d_48 ++ (kd_X10_wouldCome_05c64d_49 ++ (kd_X10_wouldCome_05c64d_50 ++ (kd_X10_wouldCome_05c64d_51 ++ (kd_X10_wouldCome_05c64d_52 ++ (kd_X10_wouldCome_05c64d_53 ++ (kd_X10_wouldCome_05c64d_54 ++ (kd_X10_wouldCome_05c64d_55 ++ (kd_X10_wouldCome_05c64d_56 ++ (kd_X10_wouldCome_05c64d_57 ++ (kd_X10_wouldCome_05c64d_58 ++ (kd_X10_wouldCome_05c64d_59 ++ (kd_X10_wouldCome_05c64d_60 ++ (kd_X10_wouldCome_05c64d_61 ++ (kd_X10_wouldCome_05c64d_62 ++ (kd_X10_wouldCome_05c64d_63)))))))))))))))))))))))))))))))))))))))))))))))))))))))))))))))
set_option maxRecDepth 100000 in
theorem kt_X10_wouldCome_05c64d : sf_chk [kq_X10_slotOf_2f4f15, kq_X7_amountOf_f49f7d, kq_X1_amountMoved_e91f76, kq_X1_amountMoved_427f00, kq_X7_stockAfter_add0c2] kq_X10_wouldCome_05c64d 14 kc_X10_wouldCome_05c64d kd_X10_wouldCome_05c64d = true := by decide +kernel
set_option maxRecDepth 100000 in
theorem kl_X10_wouldCome_05c64d : (kc_X10_wouldCome_05c64d).map (fun c => (c.1, sf_den ([Z_X10_slotOf, Z_X7_amountOf, Z_X1_amountMoved, Z_X1_amountMoved, Z_X7_stockAfter] : List sf_X) c.2)) = L_X10_wouldCome Z_X10_slotOf Z_X7_amountOf Z_X1_amountMoved Z_X7_stockAfter := rfl
theorem ct_X10_wouldCome_05c64d : sf_ct kq_X10_wouldCome_05c64d Z_X10_wouldCome := by
  have h := sf_meth (K := [kq_X10_slotOf_2f4f15, kq_X7_amountOf_f49f7d, kq_X1_amountMoved_e91f76, kq_X1_amountMoved_427f00, kq_X7_stockAfter_add0c2]) (E := [Z_X10_slotOf, Z_X7_amountOf, Z_X1_amountMoved, Z_X1_amountMoved, Z_X7_stockAfter]) (k := kq_X10_wouldCome_05c64d) (nL := 14) (C := kc_X10_wouldCome_05c64d) (D := kd_X10_wouldCome_05c64d) (fun m k hk => match m, hk with
    | 0, hk => (Option.some.inj hk) ▸ ct_X10_slotOf_2f4f15
    | 1, hk => (Option.some.inj hk) ▸ ct_X7_amountOf_f49f7d
    | 2, hk => (Option.some.inj hk) ▸ ct_X1_amountMoved_e91f76
    | 3, hk => (Option.some.inj hk) ▸ ct_X1_amountMoved_427f00
    | 4, hk => (Option.some.inj hk) ▸ ct_X7_stockAfter_add0c2
    | _ + 5, hk => (by cases hk)) kt_X10_wouldCome_05c64d
  rw [kl_X10_wouldCome_05c64d] at h
  exact h
def kq_X10_without_7e309e : sf_Q := ([(1, 10, 0), (0, 0, 0), (0, 0, 0), (0, 0, 0), (0, 0, 0)], [], some (0, 0, 0), [(1, 0, 0, -1, 999, 0)], [(1, 2, 3), (13, 7, 9), (100, 0, 5), (101, 0, 5), (129, 0, 59), (156, 0, 11), (157, 0, 11), (158, 0, 11), (159, 0, 11), (160, 0, 7), (161, 0, 7), (162, 0, 63)])
def kc_X10_without_7e309e : List (Nat × sf_I) := [(0, 4, [1, 0]),
  (1, 2, [2, 1]),
  (2, 2, [3, 2]),
  (3, 32, [6, 0, 3, 10, 0, 0, 0, 0]),
  (6, 20, [9, 29, 0]),
  (9, 2, [10, 3]),
  (10, 0, [13, 250]),
  (13, 31, [16, 1, 2, 0, 0, 0, 0]),
  (16, 20, [19, 29, 0]),
  (19, 2, [21, 4]),
  (21, 0, [23, 60]),
  (23, 31, [26, 2, 2, 0, 0, 0, 0]),
  (26, 20, [29, 31, 1]),
  (29, 0, [30, -1]),
  (30, 35, [0, 0]),
  (31, 4, [32, 0]),
  (32, 2, [33, 1]),
  (33, 2, [35, 4]),
  (35, 32, [38, 3, 3, 10, 0, 0, 0, 0]),
  (38, 5, [40, 5]),
  (40, 4, [41, 0]),
  (41, 2, [42, 2]),
  (42, 2, [44, 5]),
  (44, 32, [47, 4, 3, 10, 0, 0, 0, 0]),
  (47, 2, [48, 3]),
  (48, 21, [51, 53, 5]),
  (51, 0, [52, -1]),
  (52, 35, [0, 0]),
  (53, 4, [54, 0]),
  (54, 23, [57, 10, 4]),
  (57, 23, [60, 6, 0]),
  (60, 2, [61, 1]),
  (61, 2, [62, 2]),
  (62, 31, [65, 5, 2, 0, 0, 0, 0]),
  (65, 25, [66, 1]),
  (66, 5, [68, 6]),
  (68, 0, [69, 0]),
  (69, 5, [71, 7]),
  (71, 2, [73, 7]),
  (73, 2, [75, 6]),
  (75, 21, [78, 101, 4]),
  (78, 4, [79, 0]),
  (79, 2, [80, 1]),
  (80, 2, [81, 2]),
  (81, 2, [83, 7]),
  (83, 2, [85, 5]),
  (85, 32, [88, 6, 5, 10, 0, 0, 0, 0]),
  (88, 2, [89, 3]),
  (89, 21, [92, 95, 2]),
  (92, 2, [94, 7]),
  (94, 35, [0, 0]),
  (95, 8, [98, 7, 1]),
  (98, 22, [71]),
  (101, 0, [102, -1]),
  (102, 35, [0, 0])]
def kd_X10_without_7e309e_0 : List (Nat × sf_D × sf_M) := [(0, ([(1, 10, 0), (0, 0, 0), (0, 0, 0), (0, 0, 0), (0, 0, 0), (8, 0, 0), (8, 0, 0), (8, 0, 0)], [], [], 0, 0), (15046, [])),
  (1, ([(1, 10, 0), (0, 0, 0), (0, 0, 0), (0, 0, 0), (0, 0, 0), (8, 0, 0), (8, 0, 0), (8, 0, 0)], [(1, 10, 0)], [], 0, 0), (15045, [])),
  (2, ([(1, 10, 0), (0, 0, 0), (0, 0, 0), (0, 0, 0), (0, 0, 0), (8, 0, 0), (8, 0, 0), (8, 0, 0)], [(0, 0, 0), (1, 10, 0)], [(1, 3, 0, -2147483648, 2147483647, 0), (1, 4, 0, -2147483648, 2147483647, 0), (2, 3, 4, 1, 0, 0)], 0, 0), (15044, [])),
  (3, ([(1, 10, 0), (0, 0, 0), (0, 0, 0), (0, 0, 0), (0, 0, 0), (8, 0, 0), (8, 0, 0), (8, 0, 0)], [(0, 0, 0), (0, 0, 0), (1, 10, 0)], [(1, 3, 0, -2147483648, 2147483647, 0), (1, 4, 0, -2147483648, 2147483647, 0), (1, 6, 0, -2147483648, 2147483647, 0), (1, 7, 0, -2147483648, 2147483647, 0), (2, 3, 4, 1, 0, 0), (2, 6, 7, 1, 0, 0)], 0, 0), (15043, [])),
  (6, ([(1, 10, 0), (0, 0, 0), (0, 0, 0), (0, 0, 0), (0, 0, 0), (8, 0, 0), (8, 0, 0), (8, 0, 0)], [(0, 0, 0)], [(1, 4, 0, -2147483648, 2147483647, 0), (1, 7, 0, -2147483648, 2147483647, 0), (1, 0, 0, 0, 1, 0), (3, 0, 4, 0, 5, 0), (3, 0, 7, 0, 1, 0)], 0, 0), (15042, [])),
  (9, ([(1, 10, 0), (0, 0, 0), (0, 0, 0), (0, 0, 0), (0, 0, 0), (8, 0, 0), (8, 0, 0), (8, 0, 0)], [], [(1, 4, 0, 0, 5, 0), (1, 7, 0, 0, 1, 0)], 0, 0), (15041, []))]
def kd_X10_without_7e309e_1 : List (Nat × sf_D × sf_M) := [(10, ([(1, 10, 0), (0, 0, 0), (0, 0, 0), (0, 0, 0), (0, 0, 0), (8, 0, 0), (8, 0, 0), (8, 0, 0)], [(0, 0, 0)], [(1, 4, 0, 0, 5, 0), (1, 7, 0, 0, 1, 0), (1, 0, 0, -2147483648, 2147483647, 0), (1, 10, 0, -2147483648, 2147483647, 0), (2, 0, 10, 1, 0, 0)], 0, 0), (15040, [])),
  (13, ([(1, 10, 0), (0, 0, 0), (0, 0, 0), (0, 0, 0), (0, 0, 0), (8, 0, 0), (8, 0, 0), (8, 0, 0)], [(0, 0, 0), (0, 0, 0)], [(1, 4, 0, 0, 5, 0), (1, 7, 0, 0, 1, 0), (1, 0, 0, -2147483648, 2147483647, 0), (1, 10, 0, -2147483648, 2147483647, 0), (1, 3, 0, 250, 250, 0), (2, 0, 10, 1, 0, 0)], 0, 0), (15039, [])),
  (16, ([(1, 10, 0), (0, 0, 0), (0, 0, 0), (0, 0, 0), (0, 0, 0), (8, 0, 0), (8, 0, 0), (8, 0, 0)], [(0, 0, 0)], [(1, 4, 0, 0, 5, 0), (1, 7, 0, 0, 1, 0), (1, 10, 0, -2147483648, 2147483647, 0), (1, 0, 0, 0, 1, 0), (3, 0, 10, 1, 250, 0)], 0, 0), (15038, [])),
  (19, ([(1, 10, 0), (0, 0, 0), (0, 0, 0), (0, 0, 0), (0, 0, 0), (8, 0, 0), (8, 0, 0), (8, 0, 0)], [], [(1, 4, 0, 0, 5, 0), (1, 7, 0, 0, 1, 0), (1, 10, 0, 1, 250, 0)], 0, 0), (15037, [])),
  (21, ([(1, 10, 0), (0, 0, 0), (0, 0, 0), (0, 0, 0), (0, 0, 0), (8, 0, 0), (8, 0, 0), (8, 0, 0)], [(0, 0, 0)], [(1, 4, 0, 0, 5, 0), (1, 7, 0, 0, 1, 0), (1, 10, 0, 1, 250, 0), (1, 0, 0, -2147483648, 2147483647, 0), (1, 13, 0, -2147483648, 2147483647, 0), (2, 0, 13, 1, 0, 0)], 0, 0), (15036, []))]
def kd_X10_without_7e309e_2 : List (Nat × sf_D × sf_M) := [(23, ([(1, 10, 0), (0, 0, 0), (0, 0, 0), (0, 0, 0), (0, 0, 0), (8, 0, 0), (8, 0, 0), (8, 0, 0)], [(0, 0, 0), (0, 0, 0)], [(1, 4, 0, 0, 5, 0), (1, 7, 0, 0, 1, 0), (1, 10, 0, 1, 250, 0), (1, 0, 0, -2147483648, 2147483647, 0), (1, 13, 0, -2147483648, 2147483647, 0), (1, 3, 0, 60, 60, 0), (2, 0, 13, 1, 0, 0)], 0, 0), (15035, [])),
  (26, ([(1, 10, 0), (0, 0, 0), (0, 0, 0), (0, 0, 0), (0, 0, 0), (8, 0, 0), (8, 0, 0), (8, 0, 0)], [(0, 0, 0)], [(1, 4, 0, 0, 5, 0), (1, 7, 0, 0, 1, 0), (1, 10, 0, 1, 250, 0), (1, 13, 0, -2147483648, 2147483647, 0), (1, 0, 0, 0, 1, 0), (3, 0, 13, 1, 60, 0)], 0, 0), (15034, [])),
  (29, ([(1, 10, 0), (0, 0, 0), (0, 0, 0), (0, 0, 0), (0, 0, 0), (8, 0, 0), (8, 0, 0), (8, 0, 0)], [], [(1, 4, 0, -2147483648, 2147483647, 0), (1, 7, 0, -2147483648, 2147483647, 0)], 0, 0), (1, [])),
  (30, ([(1, 10, 0), (0, 0, 0), (0, 0, 0), (0, 0, 0), (0, 0, 0), (8, 0, 0), (8, 0, 0), (8, 0, 0)], [(0, 0, 0)], [(1, 4, 0, -2147483648, 2147483647, 0), (1, 7, 0, -2147483648, 2147483647, 0), (1, 0, 0, -1, -1, 0)], 0, 0), (0, [])),
  (31, ([(1, 10, 0), (0, 0, 0), (0, 0, 0), (0, 0, 0), (0, 0, 0), (8, 0, 0), (8, 0, 0), (8, 0, 0)], [], [(1, 4, 0, 0, 5, 0), (1, 7, 0, 0, 1, 0), (1, 10, 0, 1, 250, 0), (1, 13, 0, 1, 60, 0)], 0, 0), (15033, []))]
def kd_X10_without_7e309e_3 : List (Nat × sf_D × sf_M) := [(32, ([(1, 10, 0), (0, 0, 0), (0, 0, 0), (0, 0, 0), (0, 0, 0), (8, 0, 0), (8, 0, 0), (8, 0, 0)], [(1, 10, 0)], [(1, 4, 0, 0, 5, 0), (1, 7, 0, 0, 1, 0), (1, 10, 0, 1, 250, 0), (1, 13, 0, 1, 60, 0)], 0, 0), (15032, [])),
  (33, ([(1, 10, 0), (0, 0, 0), (0, 0, 0), (0, 0, 0), (0, 0, 0), (8, 0, 0), (8, 0, 0), (8, 0, 0)], [(0, 0, 0), (1, 10, 0)], [(1, 4, 0, 0, 5, 0), (1, 7, 0, 0, 1, 0), (1, 10, 0, 1, 250, 0), (1, 13, 0, 1, 60, 0), (1, 3, 0, 0, 5, 0), (2, 3, 4, 1, 0, 0)], 0, 0), (15031, [])),
  (35, ([(1, 10, 0), (0, 0, 0), (0, 0, 0), (0, 0, 0), (0, 0, 0), (8, 0, 0), (8, 0, 0), (8, 0, 0)], [(0, 0, 0), (0, 0, 0), (1, 10, 0)], [(1, 4, 0, 0, 5, 0), (1, 7, 0, 0, 1, 0), (1, 10, 0, 1, 250, 0), (1, 13, 0, 1, 60, 0), (1, 3, 0, 0, 5, 0), (1, 6, 0, 1, 60, 0), (2, 3, 4, 1, 0, 0), (2, 6, 13, 1, 0, 0)], 0, 0), (15030, [])),
  (38, ([(1, 10, 0), (0, 0, 0), (0, 0, 0), (0, 0, 0), (0, 0, 0), (8, 0, 0), (8, 0, 0), (8, 0, 0)], [(0, 0, 0)], [(1, 4, 0, 0, 5, 0), (1, 7, 0, 0, 1, 0), (1, 10, 0, 1, 250, 0), (1, 13, 0, 1, 60, 0), (1, 0, 0, -2147483648, 2147483647, 0)], 0, 0), (15029, []))]
def kd_X10_without_7e309e_4 : List (Nat × sf_D × sf_M) := [(40, ([(1, 10, 0), (0, 0, 0), (0, 0, 0), (0, 0, 0), (0, 0, 0), (0, 0, 0), (8, 0, 0), (8, 0, 0)], [], [(1, 4, 0, 0, 5, 0), (1, 7, 0, 0, 1, 0), (1, 10, 0, 1, 250, 0), (1, 13, 0, 1, 60, 0), (1, 16, 0, -2147483648, 2147483647, 0)], 0, 0), (15028, [])),
  (41, ([(1, 10, 0), (0, 0, 0), (0, 0, 0), (0, 0, 0), (0, 0, 0), (0, 0, 0), (8, 0, 0), (8, 0, 0)], [(1, 10, 0)], [(1, 4, 0, 0, 5, 0), (1, 7, 0, 0, 1, 0), (1, 10, 0, 1, 250, 0), (1, 13, 0, 1, 60, 0), (1, 16, 0, -2147483648, 2147483647, 0)], 0, 0), (15027, [])),
  (42, ([(1, 10, 0), (0, 0, 0), (0, 0, 0), (0, 0, 0), (0, 0, 0), (0, 0, 0), (8, 0, 0), (8, 0, 0)], [(0, 0, 0), (1, 10, 0)], [(1, 4, 0, 0, 5, 0), (1, 7, 0, 0, 1, 0), (1, 10, 0, 1, 250, 0), (1, 13, 0, 1, 60, 0), (1, 16, 0, -2147483648, 2147483647, 0), (1, 3, 0, 0, 1, 0), (2, 3, 7, 1, 0, 0)], 0, 0), (15026, [])),
  (44, ([(1, 10, 0), (0, 0, 0), (0, 0, 0), (0, 0, 0), (0, 0, 0), (0, 0, 0), (8, 0, 0), (8, 0, 0)], [(0, 0, 0), (0, 0, 0), (1, 10, 0)], [(1, 4, 0, 0, 5, 0), (1, 7, 0, 0, 1, 0), (1, 10, 0, 1, 250, 0), (1, 13, 0, 1, 60, 0), (1, 16, 0, -2147483648, 2147483647, 0), (1, 3, 0, 0, 1, 0), (1, 6, 0, -2147483648, 2147483647, 0), (2, 3, 7, 1, 0, 0), (2, 6, 16, 1, 0, 0)], 0, 0), (15025, []))]
def kd_X10_without_7e309e_5 : List (Nat × sf_D × sf_M) := [(47, ([(1, 10, 0), (0, 0, 0), (0, 0, 0), (0, 0, 0), (0, 0, 0), (0, 0, 0), (8, 0, 0), (8, 0, 0)], [(0, 0, 0)], [(1, 4, 0, 0, 5, 0), (1, 7, 0, 0, 1, 0), (1, 10, 0, 1, 250, 0), (1, 13, 0, 1, 60, 0), (1, 16, 0, -2147483648, 2147483647, 0), (1, 0, 0, -2147483648, 2147483647, 0)], 0, 0), (15024, [])),
  (48, ([(1, 10, 0), (0, 0, 0), (0, 0, 0), (0, 0, 0), (0, 0, 0), (0, 0, 0), (8, 0, 0), (8, 0, 0)], [(0, 0, 0), (0, 0, 0)], [(1, 4, 0, 0, 5, 0), (1, 7, 0, 0, 1, 0), (1, 10, 0, 1, 250, 0), (1, 13, 0, 1, 60, 0), (1, 16, 0, -2147483648, 2147483647, 0), (1, 0, 0, -2147483648, 2147483647, 0), (1, 3, 0, 1, 250, 0), (2, 3, 10, 1, 0, 0)], 0, 0), (15023, [])),
  (51, ([(1, 10, 0), (0, 0, 0), (0, 0, 0), (0, 0, 0), (0, 0, 0), (0, 0, 0), (8, 0, 0), (8, 0, 0)], [], [(1, 4, 0, 0, 5, 0), (1, 7, 0, 0, 1, 0), (1, 10, 0, 1, 250, 0), (1, 13, 0, 1, 60, 0), (1, 16, 0, -2147483648, 2147483647, 0)], 0, 0), (1, [])),
  (52, ([(1, 10, 0), (0, 0, 0), (0, 0, 0), (0, 0, 0), (0, 0, 0), (0, 0, 0), (8, 0, 0), (8, 0, 0)], [(0, 0, 0)], [(1, 4, 0, 0, 5, 0), (1, 7, 0, 0, 1, 0), (1, 10, 0, 1, 250, 0), (1, 13, 0, 1, 60, 0), (1, 16, 0, -2147483648, 2147483647, 0), (1, 0, 0, -1, -1, 0)], 0, 0), (0, []))]
def kd_X10_without_7e309e_6 : List (Nat × sf_D × sf_M) := [(53, ([(1, 10, 0), (0, 0, 0), (0, 0, 0), (0, 0, 0), (0, 0, 0), (0, 0, 0), (8, 0, 0), (8, 0, 0)], [], [(1, 4, 0, 0, 5, 0), (1, 7, 0, 0, 1, 0), (1, 10, 0, 1, 250, 0), (1, 13, 0, 1, 60, 0), (1, 16, 0, -2147483648, 2147483647, 0)], 0, 0), (15022, [])),
  (54, ([(1, 10, 0), (0, 0, 0), (0, 0, 0), (0, 0, 0), (0, 0, 0), (0, 0, 0), (8, 0, 0), (8, 0, 0)], [(1, 10, 0)], [(1, 4, 0, 0, 5, 0), (1, 7, 0, 0, 1, 0), (1, 10, 0, 1, 250, 0), (1, 13, 0, 1, 60, 0), (1, 16, 0, -2147483648, 2147483647, 0)], 0, 0), (15021, [])),
  (57, ([(1, 10, 0), (0, 0, 0), (0, 0, 0), (0, 0, 0), (0, 0, 0), (0, 0, 0), (8, 0, 0), (8, 0, 0)], [(1, 6, 0)], [(1, 4, 0, 0, 5, 0), (1, 7, 0, 0, 1, 0), (1, 10, 0, 1, 250, 0), (1, 13, 0, 1, 60, 0), (1, 16, 0, -2147483648, 2147483647, 0)], 0, 0), (15020, [])),
  (60, ([(1, 10, 0), (0, 0, 0), (0, 0, 0), (0, 0, 0), (0, 0, 0), (0, 0, 0), (8, 0, 0), (8, 0, 0)], [(1, 149, 0)], [(1, 4, 0, 0, 5, 0), (1, 7, 0, 0, 1, 0), (1, 10, 0, 1, 250, 0), (1, 13, 0, 1, 60, 0), (1, 16, 0, -2147483648, 2147483647, 0)], 0, 0), (15019, []))]
def kd_X10_without_7e309e_7 : List (Nat × sf_D × sf_M) := [(61, ([(1, 10, 0), (0, 0, 0), (0, 0, 0), (0, 0, 0), (0, 0, 0), (0, 0, 0), (8, 0, 0), (8, 0, 0)], [(0, 0, 0), (1, 149, 0)], [(1, 4, 0, 0, 5, 0), (1, 7, 0, 0, 1, 0), (1, 10, 0, 1, 250, 0), (1, 13, 0, 1, 60, 0), (1, 16, 0, -2147483648, 2147483647, 0), (1, 3, 0, 0, 5, 0), (2, 3, 4, 1, 0, 0)], 0, 0), (15018, [])),
  (62, ([(1, 10, 0), (0, 0, 0), (0, 0, 0), (0, 0, 0), (0, 0, 0), (0, 0, 0), (8, 0, 0), (8, 0, 0)], [(0, 0, 0), (0, 0, 0), (1, 149, 0)], [(1, 4, 0, 0, 5, 0), (1, 7, 0, 0, 1, 0), (1, 10, 0, 1, 250, 0), (1, 13, 0, 1, 60, 0), (1, 16, 0, -2147483648, 2147483647, 0), (1, 3, 0, 0, 5, 0), (1, 6, 0, 0, 1, 0), (2, 3, 4, 1, 0, 0), (2, 6, 7, 1, 0, 0)], 0, 0), (15017, [])),
  (65, ([(1, 10, 0), (0, 0, 0), (0, 0, 0), (0, 0, 0), (0, 0, 0), (0, 0, 0), (8, 0, 0), (8, 0, 0)], [(0, 0, 0), (1, 149, 0)], [(1, 4, 0, 0, 5, 0), (1, 7, 0, 0, 1, 0), (1, 10, 0, 1, 250, 0), (1, 13, 0, 1, 60, 0), (1, 16, 0, -2147483648, 2147483647, 0), (1, 3, 0, 0, 11, 0)], 0, 0), (15016, [])),
  (66, ([(1, 10, 0), (0, 0, 0), (0, 0, 0), (0, 0, 0), (0, 0, 0), (0, 0, 0), (8, 0, 0), (8, 0, 0)], [(0, 0, 0)], [(1, 4, 0, 0, 5, 0), (1, 7, 0, 0, 1, 0), (1, 10, 0, 1, 250, 0), (1, 13, 0, 1, 60, 0), (1, 16, 0, -2147483648, 2147483647, 0), (1, 0, 0, 0, 999, 0)], 0, 0), (15015, []))]
def kd_X10_without_7e309e_8 : List (Nat × sf_D × sf_M) := [(68, ([(1, 10, 0), (0, 0, 0), (0, 0, 0), (0, 0, 0), (0, 0, 0), (0, 0, 0), (0, 0, 0), (8, 0, 0)], [], [(1, 4, 0, 0, 5, 0), (1, 7, 0, 0, 1, 0), (1, 10, 0, 1, 250, 0), (1, 13, 0, 1, 60, 0), (1, 16, 0, -2147483648, 2147483647, 0), (1, 19, 0, 0, 999, 0)], 0, 0), (15014, [])),
  (69, ([(1, 10, 0), (0, 0, 0), (0, 0, 0), (0, 0, 0), (0, 0, 0), (0, 0, 0), (0, 0, 0), (8, 0, 0)], [(0, 0, 0)], [(1, 4, 0, 0, 5, 0), (1, 7, 0, 0, 1, 0), (1, 10, 0, 1, 250, 0), (1, 13, 0, 1, 60, 0), (1, 16, 0, -2147483648, 2147483647, 0), (1, 19, 0, 0, 999, 0), (1, 0, 0, 0, 0, 0)], 0, 0), (15013, [])),
  (71, ([(1, 10, 0), (0, 0, 0), (0, 0, 0), (0, 0, 0), (0, 0, 0), (0, 0, 0), (0, 0, 0), (0, 0, 0)], [], [(1, 4, 0, 0, 5, 0), (1, 7, 0, 0, 1, 0), (1, 10, 0, 1, 250, 0), (1, 13, 0, 1, 60, 0), (1, 16, 0, -2147483648, 2147483647, 0), (1, 19, 0, 0, 999, 0), (1, 22, 0, 0, 1000, 0)], 0, 0), (12, [(15, 22, 1000, 0)]))]
def kd_X10_without_7e309e_9 : List (Nat × sf_D × sf_M) := [(73, ([(1, 10, 0), (0, 0, 0), (0, 0, 0), (0, 0, 0), (0, 0, 0), (0, 0, 0), (0, 0, 0), (0, 0, 0)], [(0, 0, 0)], [(1, 4, 0, 0, 5, 0), (1, 7, 0, 0, 1, 0), (1, 10, 0, 1, 250, 0), (1, 13, 0, 1, 60, 0), (1, 16, 0, -2147483648, 2147483647, 0), (1, 19, 0, 0, 999, 0), (1, 22, 0, 0, 1000, 0), (1, 0, 0, 0, 1000, 0), (2, 0, 22, 1, 0, 0)], 0, 0), (11, [(15, 22, 1000, 0)])),
  (75, ([(1, 10, 0), (0, 0, 0), (0, 0, 0), (0, 0, 0), (0, 0, 0), (0, 0, 0), (0, 0, 0), (0, 0, 0)], [(0, 0, 0), (0, 0, 0)], [(1, 4, 0, 0, 5, 0), (1, 7, 0, 0, 1, 0), (1, 10, 0, 1, 250, 0), (1, 13, 0, 1, 60, 0), (1, 16, 0, -2147483648, 2147483647, 0), (1, 19, 0, 0, 999, 0), (1, 22, 0, 0, 1000, 0), (1, 0, 0, 0, 1000, 0), (1, 3, 0, 0, 999, 0), (2, 0, 22, 1, 0, 0), (2, 3, 19, 1, 0, 0)], 0, 0), (10, [(15, 22, 1000, 0)])),
  (78, ([(1, 10, 0), (0, 0, 0), (0, 0, 0), (0, 0, 0), (0, 0, 0), (0, 0, 0), (0, 0, 0), (0, 0, 0)], [], [(1, 4, 0, 0, 5, 0), (1, 7, 0, 0, 1, 0), (1, 10, 0, 1, 250, 0), (1, 13, 0, 1, 60, 0), (1, 16, 0, -2147483648, 2147483647, 0), (1, 19, 0, 0, 999, 0), (1, 22, 0, 0, 999, 0)], 0, 0), (9, [(15, 22, 1000, 0)]))]
def kd_X10_without_7e309e_10 : List (Nat × sf_D × sf_M) := [(79, ([(1, 10, 0), (0, 0, 0), (0, 0, 0), (0, 0, 0), (0, 0, 0), (0, 0, 0), (0, 0, 0), (0, 0, 0)], [(1, 10, 0)], [(1, 4, 0, 0, 5, 0), (1, 7, 0, 0, 1, 0), (1, 10, 0, 1, 250, 0), (1, 13, 0, 1, 60, 0), (1, 16, 0, -2147483648, 2147483647, 0), (1, 19, 0, 0, 999, 0), (1, 22, 0, 0, 999, 0)], 0, 0), (8, [(15, 22, 1000, 0)])),
  (80, ([(1, 10, 0), (0, 0, 0), (0, 0, 0), (0, 0, 0), (0, 0, 0), (0, 0, 0), (0, 0, 0), (0, 0, 0)], [(0, 0, 0), (1, 10, 0)], [(1, 4, 0, 0, 5, 0), (1, 7, 0, 0, 1, 0), (1, 10, 0, 1, 250, 0), (1, 13, 0, 1, 60, 0), (1, 16, 0, -2147483648, 2147483647, 0), (1, 19, 0, 0, 999, 0), (1, 22, 0, 0, 999, 0), (1, 3, 0, 0, 5, 0), (2, 3, 4, 1, 0, 0)], 0, 0), (7, [(15, 22, 1000, 0)])),
  (81, ([(1, 10, 0), (0, 0, 0), (0, 0, 0), (0, 0, 0), (0, 0, 0), (0, 0, 0), (0, 0, 0), (0, 0, 0)], [(0, 0, 0), (0, 0, 0), (1, 10, 0)], [(1, 4, 0, 0, 5, 0), (1, 7, 0, 0, 1, 0), (1, 10, 0, 1, 250, 0), (1, 13, 0, 1, 60, 0), (1, 16, 0, -2147483648, 2147483647, 0), (1, 19, 0, 0, 999, 0), (1, 22, 0, 0, 999, 0), (1, 3, 0, 0, 5, 0), (1, 6, 0, 0, 1, 0), (2, 3, 4, 1, 0, 0), (2, 6, 7, 1, 0, 0)], 0, 0), (6, [(15, 22, 1000, 0)]))]
def kd_X10_without_7e309e_11 : List (Nat × sf_D × sf_M) := [(83, ([(1, 10, 0), (0, 0, 0), (0, 0, 0), (0, 0, 0), (0, 0, 0), (0, 0, 0), (0, 0, 0), (0, 0, 0)], [(0, 0, 0), (0, 0, 0), (0, 0, 0), (1, 10, 0)], [(1, 4, 0, 0, 5, 0), (1, 7, 0, 0, 1, 0), (1, 10, 0, 1, 250, 0), (1, 13, 0, 1, 60, 0), (1, 16, 0, -2147483648, 2147483647, 0), (1, 19, 0, 0, 999, 0), (1, 22, 0, 0, 999, 0), (1, 3, 0, 0, 5, 0), (1, 6, 0, 0, 1, 0), (1, 9, 0, 0, 999, 0), (2, 3, 4, 1, 0, 0), (2, 6, 7, 1, 0, 0), (2, 9, 22, 1, 0, 0)], 0, 0), (5, [(15, 22, 1000, 0)])),
  (85, ([(1, 10, 0), (0, 0, 0), (0, 0, 0), (0, 0, 0), (0, 0, 0), (0, 0, 0), (0, 0, 0), (0, 0, 0)], [(0, 0, 0), (0, 0, 0), (0, 0, 0), (0, 0, 0), (1, 10, 0)], [(1, 4, 0, 0, 5, 0), (1, 7, 0, 0, 1, 0), (1, 10, 0, 1, 250, 0), (1, 13, 0, 1, 60, 0), (1, 16, 0, -2147483648, 2147483647, 0), (1, 19, 0, 0, 999, 0), (1, 22, 0, 0, 999, 0), (1, 3, 0, 0, 5, 0), (1, 6, 0, 0, 1, 0), (1, 9, 0, 0, 999, 0), (1, 12, 0, -2147483648, 2147483647, 0), (2, 3, 4, 1, 0, 0), (2, 6, 7, 1, 0, 0), (2, 9, 22, 1, 0, 0), (2, 12, 16, 1, 0, 0)], 0, 0), (4, [(15, 22, 1000, 0)]))]
def kd_X10_without_7e309e_12 : List (Nat × sf_D × sf_M) := [(88, ([(1, 10, 0), (0, 0, 0), (0, 0, 0), (0, 0, 0), (0, 0, 0), (0, 0, 0), (0, 0, 0), (0, 0, 0)], [(0, 0, 0)], [(1, 4, 0, 0, 5, 0), (1, 7, 0, 0, 1, 0), (1, 10, 0, 1, 250, 0), (1, 13, 0, 1, 60, 0), (1, 16, 0, -2147483648, 2147483647, 0), (1, 19, 0, 0, 999, 0), (1, 22, 0, 0, 999, 0), (1, 0, 0, -2147483648, 2147483647, 0)], 0, 0), (3, [(15, 22, 1000, 0)])),
  (89, ([(1, 10, 0), (0, 0, 0), (0, 0, 0), (0, 0, 0), (0, 0, 0), (0, 0, 0), (0, 0, 0), (0, 0, 0)], [(0, 0, 0), (0, 0, 0)], [(1, 4, 0, 0, 5, 0), (1, 7, 0, 0, 1, 0), (1, 10, 0, 1, 250, 0), (1, 13, 0, 1, 60, 0), (1, 16, 0, -2147483648, 2147483647, 0), (1, 19, 0, 0, 999, 0), (1, 22, 0, 0, 999, 0), (1, 0, 0, -2147483648, 2147483647, 0), (1, 3, 0, 1, 250, 0), (2, 3, 10, 1, 0, 0)], 0, 0), (2, [(15, 22, 1000, 0)])),
  (92, ([(1, 10, 0), (0, 0, 0), (0, 0, 0), (0, 0, 0), (0, 0, 0), (0, 0, 0), (0, 0, 0), (0, 0, 0)], [], [(1, 4, 0, 0, 5, 0), (1, 7, 0, 0, 1, 0), (1, 10, 0, 1, 250, 0), (1, 13, 0, 1, 60, 0), (1, 16, 0, -2147483648, 2147483647, 0), (1, 19, 0, 0, 999, 0), (1, 22, 0, 0, 999, 0)], 0, 0), (1, []))]
def kd_X10_without_7e309e_13 : List (Nat × sf_D × sf_M) := [(94, ([(1, 10, 0), (0, 0, 0), (0, 0, 0), (0, 0, 0), (0, 0, 0), (0, 0, 0), (0, 0, 0), (0, 0, 0)], [(0, 0, 0)], [(1, 4, 0, 0, 5, 0), (1, 7, 0, 0, 1, 0), (1, 10, 0, 1, 250, 0), (1, 13, 0, 1, 60, 0), (1, 16, 0, -2147483648, 2147483647, 0), (1, 19, 0, 0, 999, 0), (1, 22, 0, 0, 999, 0), (1, 0, 0, 0, 999, 0), (2, 0, 22, 1, 0, 0)], 0, 0), (0, [])),
  (95, ([(1, 10, 0), (0, 0, 0), (0, 0, 0), (0, 0, 0), (0, 0, 0), (0, 0, 0), (0, 0, 0), (0, 0, 0)], [], [(1, 4, 0, 0, 5, 0), (1, 7, 0, 0, 1, 0), (1, 10, 0, 1, 250, 0), (1, 13, 0, 1, 60, 0), (1, 16, 0, -2147483648, 2147483647, 0), (1, 19, 0, 0, 999, 0), (1, 22, 0, 0, 999, 0)], 0, 0), (0, [(15, 22, 1000, 0)])),
  (98, ([(1, 10, 0), (0, 0, 0), (0, 0, 0), (0, 0, 0), (0, 0, 0), (0, 0, 0), (0, 0, 0), (0, 0, 0)], [], [(1, 4, 0, 0, 5, 0), (1, 7, 0, 0, 1, 0), (1, 10, 0, 1, 250, 0), (1, 13, 0, 1, 60, 0), (1, 16, 0, -2147483648, 2147483647, 0), (1, 19, 0, 0, 999, 0), (1, 22, 0, 1, 1000, 0)], 0, 0), (13, [(15, 22, 1000, 0)]))]
def kd_X10_without_7e309e_14 : List (Nat × sf_D × sf_M) := [(101, ([(1, 10, 0), (0, 0, 0), (0, 0, 0), (0, 0, 0), (0, 0, 0), (0, 0, 0), (0, 0, 0), (0, 0, 0)], [], [(1, 4, 0, 0, 5, 0), (1, 7, 0, 0, 1, 0), (1, 10, 0, 1, 250, 0), (1, 13, 0, 1, 60, 0), (1, 16, 0, -2147483648, 2147483647, 0), (1, 19, 0, 0, 999, 0), (1, 22, 0, 1, 2147483647, 0)], 0, 0), (1, [])),
  (102, ([(1, 10, 0), (0, 0, 0), (0, 0, 0), (0, 0, 0), (0, 0, 0), (0, 0, 0), (0, 0, 0), (0, 0, 0)], [(0, 0, 0)], [(1, 4, 0, 0, 5, 0), (1, 7, 0, 0, 1, 0), (1, 10, 0, 1, 250, 0), (1, 13, 0, 1, 60, 0), (1, 16, 0, -2147483648, 2147483647, 0), (1, 19, 0, 0, 999, 0), (1, 22, 0, 1, 2147483647, 0), (1, 0, 0, -1, -1, 0)], 0, 0), (0, []))]
def kd_X10_without_7e309e : List (Nat × sf_D × sf_M) := kd_X10_without_7e309e_0 ++ (kd_X10_without_7e309e_1 ++ (kd_X10_without_7e309e_2 ++ (kd_X10_without_7e309e_3 ++ (kd_X10_without_7e309e_4 ++ (kd_X10_without_7e309e_5 ++ (kd_X10_without_7e309e_6 ++ (kd_X10_without_7e309e_7 ++ (kd_X10_without_7e309e_8 ++ (kd_X10_without_7e309e_9 ++ (kd_X10_without_7e309e_10 ++ (kd_X10_without_7e309e_11 ++ (kd_X10_without_7e309e_12 ++ (kd_X10_without_7e309e_13 ++ (kd_X10_without_7e309e_14))))))))))))))
set_option maxRecDepth 100000 in
theorem kt_X10_without_7e309e : sf_chk [kq_X10_isSlot_57b5ea, kq_X10_isWithin_db750f, kq_X10_isWithin_0d71f4, kq_X10_foreseeRoom_2d41dd, kq_X10_roomTowards_ec6d5f, kq_X10_slotOf_2f4f15, kq_X10_wouldCome_05c64d] kq_X10_without_7e309e 8 kc_X10_without_7e309e kd_X10_without_7e309e = true := by decide +kernel
set_option maxRecDepth 100000 in
theorem kl_X10_without_7e309e : (kc_X10_without_7e309e).map (fun c => (c.1, sf_den ([Z_X10_isSlot, Z_X10_isWithin, Z_X10_isWithin, Z_X10_foreseeRoom, Z_X10_roomTowards, Z_X10_slotOf, Z_X10_wouldCome] : List sf_X) c.2)) = L_X10_without Z_X10_isSlot Z_X10_isWithin Z_X10_foreseeRoom Z_X10_roomTowards Z_X10_slotOf Z_X10_wouldCome := rfl
theorem ct_X10_without_7e309e : sf_ct kq_X10_without_7e309e Z_X10_without := by
  have h := sf_meth (K := [kq_X10_isSlot_57b5ea, kq_X10_isWithin_db750f, kq_X10_isWithin_0d71f4, kq_X10_foreseeRoom_2d41dd, kq_X10_roomTowards_ec6d5f, kq_X10_slotOf_2f4f15, kq_X10_wouldCome_05c64d]) (E := [Z_X10_isSlot, Z_X10_isWithin, Z_X10_isWithin, Z_X10_foreseeRoom, Z_X10_roomTowards, Z_X10_slotOf, Z_X10_wouldCome]) (k := kq_X10_without_7e309e) (nL := 8) (C := kc_X10_without_7e309e) (D := kd_X10_without_7e309e) (fun m k hk => match m, hk with
    | 0, hk => (Option.some.inj hk) ▸ ct_X10_isSlot_57b5ea
    | 1, hk => (Option.some.inj hk) ▸ ct_X10_isWithin_db750f
    | 2, hk => (Option.some.inj hk) ▸ ct_X10_isWithin_0d71f4
    | 3, hk => (Option.some.inj hk) ▸ ct_X10_foreseeRoom_2d41dd
    | 4, hk => (Option.some.inj hk) ▸ ct_X10_roomTowards_ec6d5f
    | 5, hk => (Option.some.inj hk) ▸ ct_X10_slotOf_2f4f15
    | 6, hk => (Option.some.inj hk) ▸ ct_X10_wouldCome_05c64d
    | _ + 7, hk => (by cases hk)) kt_X10_without_7e309e
  rw [kl_X10_without_7e309e] at h
  exact h
def kq_X10_meet_57b5ea : sf_Q := ([(1, 10, 0), (0, 0, 0), (0, 0, 0)], [], some (0, 0, 0), [(1, 0, 0, -1, 100, 0)], [(1, 2, 3), (13, 7, 9), (100, 0, 5), (101, 0, 5), (156, 0, 11), (157, 0, 11), (158, 0, 11), (159, 0, 11), (160, 0, 7), (161, 0, 7), (162, 0, 63)])
def kc_X10_meet_57b5ea : List (Nat × sf_I) := [(0, 4, [1, 0]),
  (1, 2, [2, 1]),
  (2, 2, [3, 2]),
  (3, 32, [6, 0, 3, 10, 0, 0, 0, 0]),
  (6, 20, [9, 11, 1]),
  (9, 0, [10, -1]),
  (10, 35, [0, 0]),
  (11, 4, [12, 0]),
  (12, 23, [15, 10, 5]),
  (15, 4, [16, 0]),
  (16, 23, [19, 10, 4]),
  (19, 32, [22, 1, 2, 6, 0, 0, 0, 0]),
  (22, 0, [23, 0]),
  (23, 5, [24, 3]),
  (24, 2, [25, 3]),
  (25, 0, [27, 100]),
  (27, 21, [30, 91, 4]),
  (30, 4, [31, 0]),
  (31, 23, [34, 10, 5]),
  (34, 23, [37, 6, 4]),
  (37, 2, [38, 1]),
  (38, 25, [39, 1]),
  (39, 4, [40, 0]),
  (40, 23, [43, 10, 5]),
  (43, 23, [46, 6, 4]),
  (46, 2, [47, 2]),
  (47, 25, [48, 1]),
  (48, 21, [51, 53, 1]),
  (51, 2, [52, 3]),
  (52, 35, [0, 0]),
  (53, 4, [54, 0]),
  (54, 23, [57, 10, 5]),
  (57, 23, [60, 6, 7]),
  (60, 0, [63, 400]),
  (63, 21, [66, 68, 2]),
  (66, 0, [67, -1]),
  (67, 35, [0, 0]),
  (68, 4, [69, 0]),
  (69, 23, [72, 10, 2]),
  (72, 4, [73, 0]),
  (73, 23, [76, 10, 13]),
  (76, 4, [77, 0]),
  (77, 23, [80, 10, 5]),
  (80, 0, [81, 1]),
  (81, 32, [84, 2, 4, 1, 0, 0, 0, 0]),
  (84, 19, [85]),
  (85, 8, [88, 3, 1]),
  (88, 22, [24]),
  (91, 0, [92, -1]),
  (92, 35, [0, 0])]
def kd_X10_meet_57b5ea_0 : List (Nat × sf_D × sf_M) := [(0, ([(1, 10, 0), (0, 0, 0), (0, 0, 0), (8, 0, 0)], [], [], 0, 0), (3272, [])),
  (1, ([(1, 10, 0), (0, 0, 0), (0, 0, 0), (8, 0, 0)], [(1, 10, 0)], [], 0, 0), (3271, [])),
  (2, ([(1, 10, 0), (0, 0, 0), (0, 0, 0), (8, 0, 0)], [(0, 0, 0), (1, 10, 0)], [(1, 3, 0, -2147483648, 2147483647, 0), (1, 4, 0, -2147483648, 2147483647, 0), (2, 3, 4, 1, 0, 0)], 0, 0), (3270, [])),
  (3, ([(1, 10, 0), (0, 0, 0), (0, 0, 0), (8, 0, 0)], [(0, 0, 0), (0, 0, 0), (1, 10, 0)], [(1, 3, 0, -2147483648, 2147483647, 0), (1, 4, 0, -2147483648, 2147483647, 0), (1, 6, 0, -2147483648, 2147483647, 0), (1, 7, 0, -2147483648, 2147483647, 0), (2, 3, 4, 1, 0, 0), (2, 6, 7, 1, 0, 0)], 0, 0), (3269, [])),
  (6, ([(1, 10, 0), (0, 0, 0), (0, 0, 0), (8, 0, 0)], [(0, 0, 0)], [(1, 4, 0, -2147483648, 2147483647, 0), (1, 7, 0, -2147483648, 2147483647, 0), (1, 0, 0, 0, 1, 0), (3, 0, 4, 0, 7, 0), (3, 0, 7, 0, 7, 0)], 0, 0), (3268, [])),
  (9, ([(1, 10, 0), (0, 0, 0), (0, 0, 0), (8, 0, 0)], [], [(1, 4, 0, -2147483648, 2147483647, 0), (1, 7, 0, -2147483648, 2147483647, 0)], 0, 0), (1, [])),
  (10, ([(1, 10, 0), (0, 0, 0), (0, 0, 0), (8, 0, 0)], [(0, 0, 0)], [(1, 4, 0, -2147483648, 2147483647, 0), (1, 7, 0, -2147483648, 2147483647, 0), (1, 0, 0, -1, -1, 0)], 0, 0), (0, [])),
  (11, ([(1, 10, 0), (0, 0, 0), (0, 0, 0), (8, 0, 0)], [], [(1, 4, 0, 0, 7, 0), (1, 7, 0, 0, 7, 0)], 0, 0), (3267, []))]
def kd_X10_meet_57b5ea_1 : List (Nat × sf_D × sf_M) := [(12, ([(1, 10, 0), (0, 0, 0), (0, 0, 0), (8, 0, 0)], [(1, 10, 0)], [(1, 4, 0, 0, 7, 0), (1, 7, 0, 0, 7, 0)], 0, 0), (3266, [])),
  (15, ([(1, 10, 0), (0, 0, 0), (0, 0, 0), (8, 0, 0)], [(1, 13, 0)], [(1, 4, 0, 0, 7, 0), (1, 7, 0, 0, 7, 0)], 0, 0), (3265, [])),
  (16, ([(1, 10, 0), (0, 0, 0), (0, 0, 0), (8, 0, 0)], [(1, 10, 0), (1, 13, 0)], [(1, 4, 0, 0, 7, 0), (1, 7, 0, 0, 7, 0)], 0, 0), (3264, [])),
  (19, ([(1, 10, 0), (0, 0, 0), (0, 0, 0), (8, 0, 0)], [(1, 6, 0), (1, 13, 0)], [(1, 4, 0, 0, 7, 0), (1, 7, 0, 0, 7, 0)], 0, 0), (3263, [])),
  (22, ([(1, 10, 0), (0, 0, 0), (0, 0, 0), (8, 0, 0)], [], [(1, 4, 0, 0, 7, 0), (1, 7, 0, 0, 7, 0)], 0, 0), (3262, [])),
  (23, ([(1, 10, 0), (0, 0, 0), (0, 0, 0), (8, 0, 0)], [(0, 0, 0)], [(1, 4, 0, 0, 7, 0), (1, 7, 0, 0, 7, 0), (1, 0, 0, 0, 0, 0)], 0, 0), (3261, [])),
  (24, ([(1, 10, 0), (0, 0, 0), (0, 0, 0), (0, 0, 0)], [], [(1, 4, 0, 0, 7, 0), (1, 7, 0, 0, 7, 0), (1, 10, 0, 0, 101, 0)], 0, 0), (28, [(32, 10, 101, 0)])),
  (25, ([(1, 10, 0), (0, 0, 0), (0, 0, 0), (0, 0, 0)], [(0, 0, 0)], [(1, 4, 0, 0, 7, 0), (1, 7, 0, 0, 7, 0), (1, 10, 0, 0, 101, 0), (1, 0, 0, 0, 101, 0), (2, 0, 10, 1, 0, 0)], 0, 0), (27, [(32, 10, 101, 0)]))]
def kd_X10_meet_57b5ea_2 : List (Nat × sf_D × sf_M) := [(27, ([(1, 10, 0), (0, 0, 0), (0, 0, 0), (0, 0, 0)], [(0, 0, 0), (0, 0, 0)], [(1, 4, 0, 0, 7, 0), (1, 7, 0, 0, 7, 0), (1, 10, 0, 0, 101, 0), (1, 0, 0, 0, 101, 0), (1, 3, 0, 100, 100, 0), (2, 0, 10, 1, 0, 0)], 0, 0), (26, [(32, 10, 101, 0)])),
  (30, ([(1, 10, 0), (0, 0, 0), (0, 0, 0), (0, 0, 0)], [], [(1, 4, 0, 0, 7, 0), (1, 7, 0, 0, 7, 0), (1, 10, 0, 0, 100, 0)], 0, 0), (25, [(32, 10, 101, 0)])),
  (31, ([(1, 10, 0), (0, 0, 0), (0, 0, 0), (0, 0, 0)], [(1, 10, 0)], [(1, 4, 0, 0, 7, 0), (1, 7, 0, 0, 7, 0), (1, 10, 0, 0, 100, 0)], 0, 0), (24, [(32, 10, 101, 0)])),
  (34, ([(1, 10, 0), (0, 0, 0), (0, 0, 0), (0, 0, 0)], [(1, 13, 0)], [(1, 4, 0, 0, 7, 0), (1, 7, 0, 0, 7, 0), (1, 10, 0, 0, 100, 0)], 0, 0), (23, [(32, 10, 101, 0)])),
  (37, ([(1, 10, 0), (0, 0, 0), (0, 0, 0), (0, 0, 0)], [(1, 160, 0)], [(1, 4, 0, 0, 7, 0), (1, 7, 0, 0, 7, 0), (1, 10, 0, 0, 100, 0)], 0, 0), (22, [(32, 10, 101, 0)])),
  (38, ([(1, 10, 0), (0, 0, 0), (0, 0, 0), (0, 0, 0)], [(0, 0, 0), (1, 160, 0)], [(1, 4, 0, 0, 7, 0), (1, 7, 0, 0, 7, 0), (1, 10, 0, 0, 100, 0), (1, 3, 0, 0, 7, 0), (2, 3, 4, 1, 0, 0)], 0, 0), (21, [(32, 10, 101, 0)]))]
def kd_X10_meet_57b5ea_3 : List (Nat × sf_D × sf_M) := [(39, ([(1, 10, 0), (0, 0, 0), (0, 0, 0), (0, 0, 0)], [(0, 0, 0)], [(1, 4, 0, 0, 7, 0), (1, 7, 0, 0, 7, 0), (1, 10, 0, 0, 100, 0), (1, 0, 0, -2147483648, 2147483647, 0)], 0, 0), (20, [(32, 10, 101, 0)])),
  (40, ([(1, 10, 0), (0, 0, 0), (0, 0, 0), (0, 0, 0)], [(1, 10, 0), (0, 0, 0)], [(1, 4, 0, 0, 7, 0), (1, 7, 0, 0, 7, 0), (1, 10, 0, 0, 100, 0), (1, 0, 0, -2147483648, 2147483647, 0)], 0, 0), (19, [(32, 10, 101, 0)])),
  (43, ([(1, 10, 0), (0, 0, 0), (0, 0, 0), (0, 0, 0)], [(1, 13, 0), (0, 0, 0)], [(1, 4, 0, 0, 7, 0), (1, 7, 0, 0, 7, 0), (1, 10, 0, 0, 100, 0), (1, 0, 0, -2147483648, 2147483647, 0)], 0, 0), (18, [(32, 10, 101, 0)])),
  (46, ([(1, 10, 0), (0, 0, 0), (0, 0, 0), (0, 0, 0)], [(1, 160, 0), (0, 0, 0)], [(1, 4, 0, 0, 7, 0), (1, 7, 0, 0, 7, 0), (1, 10, 0, 0, 100, 0), (1, 0, 0, -2147483648, 2147483647, 0)], 0, 0), (17, [(32, 10, 101, 0)])),
  (47, ([(1, 10, 0), (0, 0, 0), (0, 0, 0), (0, 0, 0)], [(0, 0, 0), (1, 160, 0), (0, 0, 0)], [(1, 4, 0, 0, 7, 0), (1, 7, 0, 0, 7, 0), (1, 10, 0, 0, 100, 0), (1, 0, 0, -2147483648, 2147483647, 0), (1, 6, 0, 0, 7, 0), (2, 6, 7, 1, 0, 0)], 0, 0), (16, [(32, 10, 101, 0)])),
  (48, ([(1, 10, 0), (0, 0, 0), (0, 0, 0), (0, 0, 0)], [(0, 0, 0), (0, 0, 0)], [(1, 4, 0, 0, 7, 0), (1, 7, 0, 0, 7, 0), (1, 10, 0, 0, 100, 0), (1, 0, 0, -2147483648, 2147483647, 0), (1, 3, 0, -2147483648, 2147483647, 0)], 0, 0), (15, [(32, 10, 101, 0)]))]
def kd_X10_meet_57b5ea_4 : List (Nat × sf_D × sf_M) := [(51, ([(1, 10, 0), (0, 0, 0), (0, 0, 0), (0, 0, 0)], [], [(1, 4, 0, 0, 7, 0), (1, 7, 0, 0, 7, 0), (1, 10, 0, 0, 100, 0)], 0, 0), (1, [])),
  (52, ([(1, 10, 0), (0, 0, 0), (0, 0, 0), (0, 0, 0)], [(0, 0, 0)], [(1, 4, 0, 0, 7, 0), (1, 7, 0, 0, 7, 0), (1, 10, 0, 0, 100, 0), (1, 0, 0, 0, 100, 0), (2, 0, 10, 1, 0, 0)], 0, 0), (0, [])),
  (53, ([(1, 10, 0), (0, 0, 0), (0, 0, 0), (0, 0, 0)], [], [(1, 4, 0, 0, 7, 0), (1, 7, 0, 0, 7, 0), (1, 10, 0, 0, 100, 0)], 0, 0), (14, [(32, 10, 101, 0)])),
  (54, ([(1, 10, 0), (0, 0, 0), (0, 0, 0), (0, 0, 0)], [(1, 10, 0)], [(1, 4, 0, 0, 7, 0), (1, 7, 0, 0, 7, 0), (1, 10, 0, 0, 100, 0)], 0, 0), (13, [(32, 10, 101, 0)])),
  (57, ([(1, 10, 0), (0, 0, 0), (0, 0, 0), (0, 0, 0)], [(1, 13, 0)], [(1, 4, 0, 0, 7, 0), (1, 7, 0, 0, 7, 0), (1, 10, 0, 0, 100, 0)], 0, 0), (12, [(32, 10, 101, 0)])),
  (60, ([(1, 10, 0), (0, 0, 0), (0, 0, 0), (0, 0, 0)], [(0, 0, 400)], [(1, 4, 0, 0, 7, 0), (1, 7, 0, 0, 7, 0), (1, 10, 0, 0, 100, 0), (1, 0, 0, 0, 400, 0), (1, 42023, 0, -2147483648, 2147483647, 0), (2, 0, 42023, 1, 0, 0)], 0, 0), (11, [(32, 10, 101, 0)]))]
def kd_X10_meet_57b5ea_5 : List (Nat × sf_D × sf_M) := [(63, ([(1, 10, 0), (0, 0, 0), (0, 0, 0), (0, 0, 0)], [(0, 0, 0), (0, 0, 400)], [(1, 4, 0, 0, 7, 0), (1, 7, 0, 0, 7, 0), (1, 10, 0, 0, 100, 0), (1, 0, 0, 0, 400, 0), (1, 42023, 0, -2147483648, 2147483647, 0), (1, 3, 0, 400, 400, 0), (2, 0, 42023, 1, 0, 0)], 0, 0), (10, [(32, 10, 101, 0)])),
  (66, ([(1, 10, 0), (0, 0, 0), (0, 0, 0), (0, 0, 0)], [], [(1, 4, 0, 0, 7, 0), (1, 7, 0, 0, 7, 0), (1, 10, 0, 0, 100, 0), (1, 42023, 0, 400, 400, 0)], 0, 0), (1, [])),
  (67, ([(1, 10, 0), (0, 0, 0), (0, 0, 0), (0, 0, 0)], [(0, 0, 0)], [(1, 4, 0, 0, 7, 0), (1, 7, 0, 0, 7, 0), (1, 10, 0, 0, 100, 0), (1, 42023, 0, 400, 400, 0), (1, 0, 0, -1, -1, 0)], 0, 0), (0, [])),
  (68, ([(1, 10, 0), (0, 0, 0), (0, 0, 0), (0, 0, 0)], [], [(1, 4, 0, 0, 7, 0), (1, 7, 0, 0, 7, 0), (1, 10, 0, 0, 100, 0), (1, 42023, 0, 0, 399, 0)], 0, 0), (9, [(32, 10, 101, 0)])),
  (69, ([(1, 10, 0), (0, 0, 0), (0, 0, 0), (0, 0, 0)], [(1, 10, 0)], [(1, 4, 0, 0, 7, 0), (1, 7, 0, 0, 7, 0), (1, 10, 0, 0, 100, 0), (1, 42023, 0, 0, 399, 0)], 0, 0), (8, [(32, 10, 101, 0)])),
  (72, ([(1, 10, 0), (0, 0, 0), (0, 0, 0), (0, 0, 0)], [(1, 1, 0)], [(1, 4, 0, 0, 7, 0), (1, 7, 0, 0, 7, 0), (1, 10, 0, 0, 100, 0), (1, 42023, 0, 0, 399, 0)], 0, 0), (7, [(32, 10, 101, 0)]))]
def kd_X10_meet_57b5ea_6 : List (Nat × sf_D × sf_M) := [(73, ([(1, 10, 0), (0, 0, 0), (0, 0, 0), (0, 0, 0)], [(1, 10, 0), (1, 1, 0)], [(1, 4, 0, 0, 7, 0), (1, 7, 0, 0, 7, 0), (1, 10, 0, 0, 100, 0), (1, 42023, 0, 0, 399, 0)], 0, 0), (6, [(32, 10, 101, 0)])),
  (76, ([(1, 10, 0), (0, 0, 0), (0, 0, 0), (0, 0, 0)], [(1, 7, 0), (1, 1, 0)], [(1, 4, 0, 0, 7, 0), (1, 7, 0, 0, 7, 0), (1, 10, 0, 0, 100, 0), (1, 42023, 0, 0, 399, 0)], 0, 0), (5, [(32, 10, 101, 0)])),
  (77, ([(1, 10, 0), (0, 0, 0), (0, 0, 0), (0, 0, 0)], [(1, 10, 0), (1, 7, 0), (1, 1, 0)], [(1, 4, 0, 0, 7, 0), (1, 7, 0, 0, 7, 0), (1, 10, 0, 0, 100, 0), (1, 42023, 0, 0, 399, 0)], 0, 0), (4, [(32, 10, 101, 0)])),
  (80, ([(1, 10, 0), (0, 0, 0), (0, 0, 0), (0, 0, 0)], [(1, 13, 0), (1, 7, 0), (1, 1, 0)], [(1, 4, 0, 0, 7, 0), (1, 7, 0, 0, 7, 0), (1, 10, 0, 0, 100, 0), (1, 42023, 0, 0, 399, 0)], 0, 0), (3, [(32, 10, 101, 0)])),
  (81, ([(1, 10, 0), (0, 0, 0), (0, 0, 0), (0, 0, 0)], [(0, 0, 0), (1, 13, 0), (1, 7, 0), (1, 1, 0)], [(1, 4, 0, 0, 7, 0), (1, 7, 0, 0, 7, 0), (1, 10, 0, 0, 100, 0), (1, 42023, 0, 0, 399, 0), (1, 9, 0, 1, 1, 0)], 0, 0), (2, [(32, 10, 101, 0)])),
  (84, ([(1, 10, 0), (0, 0, 0), (0, 0, 0), (0, 0, 0)], [(0, 0, 0)], [(1, 4, 0, 0, 7, 0), (1, 7, 0, 0, 7, 0), (1, 10, 0, 0, 100, 0), (1, 0, 0, -400, 400, 0)], 0, 0), (1, [(32, 10, 101, 0)]))]
def kd_X10_meet_57b5ea_7 : List (Nat × sf_D × sf_M) := [(85, ([(1, 10, 0), (0, 0, 0), (0, 0, 0), (0, 0, 0)], [], [(1, 4, 0, 0, 7, 0), (1, 7, 0, 0, 7, 0), (1, 10, 0, 0, 100, 0)], 0, 0), (0, [(32, 10, 101, 0)])),
  (88, ([(1, 10, 0), (0, 0, 0), (0, 0, 0), (0, 0, 0)], [], [(1, 4, 0, 0, 7, 0), (1, 7, 0, 0, 7, 0), (1, 10, 0, 1, 101, 0)], 0, 0), (29, [(32, 10, 101, 0)])),
  (91, ([(1, 10, 0), (0, 0, 0), (0, 0, 0), (0, 0, 0)], [], [(1, 4, 0, 0, 7, 0), (1, 7, 0, 0, 7, 0), (1, 10, 0, 101, 101, 0)], 0, 0), (1, [])),
  (92, ([(1, 10, 0), (0, 0, 0), (0, 0, 0), (0, 0, 0)], [(0, 0, 0)], [(1, 4, 0, 0, 7, 0), (1, 7, 0, 0, 7, 0), (1, 10, 0, 101, 101, 0), (1, 0, 0, -1, -1, 0)], 0, 0), (0, []))]
def kd_X10_meet_57b5ea : List (Nat × sf_D × sf_M) := kd_X10_meet_57b5ea_0 ++ (kd_X10_meet_57b5ea_1 ++ (kd_X10_meet_57b5ea_2 ++ (kd_X10_meet_57b5ea_3 ++ (kd_X10_meet_57b5ea_4 ++ (kd_X10_meet_57b5ea_5 ++ (kd_X10_meet_57b5ea_6 ++ (kd_X10_meet_57b5ea_7)))))))
set_option maxRecDepth 100000 in
theorem kt_X10_meet_57b5ea : sf_chk [kq_X10_areLivingTwo_57b5ea, kq_X6_copyFrom_80a60b, kq_X1_passDays_13] kq_X10_meet_57b5ea 4 kc_X10_meet_57b5ea kd_X10_meet_57b5ea = true := by decide +kernel
set_option maxRecDepth 100000 in
theorem kl_X10_meet_57b5ea : (kc_X10_meet_57b5ea).map (fun c => (c.1, sf_den ([Z_X10_areLivingTwo, Z_X6_copyFrom, Z_X1_passDays] : List sf_X) c.2)) = L_X10_meet Z_X10_areLivingTwo Z_X6_copyFrom Z_X1_passDays := rfl
theorem ct_X10_meet_57b5ea : sf_ct kq_X10_meet_57b5ea Z_X10_meet := by
  have h := sf_meth (K := [kq_X10_areLivingTwo_57b5ea, kq_X6_copyFrom_80a60b, kq_X1_passDays_13]) (E := [Z_X10_areLivingTwo, Z_X6_copyFrom, Z_X1_passDays]) (k := kq_X10_meet_57b5ea) (nL := 4) (C := kc_X10_meet_57b5ea) (D := kd_X10_meet_57b5ea) (fun m k hk => match m, hk with
    | 0, hk => (Option.some.inj hk) ▸ ct_X10_areLivingTwo_57b5ea
    | 1, hk => (Option.some.inj hk) ▸ ct_X6_copyFrom_80a60b
    | 2, hk => (Option.some.inj hk) ▸ ct_X1_passDays_13
    | _ + 3, hk => (by cases hk)) kt_X10_meet_57b5ea
  rw [kl_X10_meet_57b5ea] at h
  exact h
def kq_X10_loads_0df2a5 : sf_Q := ([(1, 10, 0), (0, 0, 0)], [], some (0, 0, 0), [], [(1, 2, 3), (13, 7, 9), (100, 0, 5), (101, 0, 5), (156, 0, 11), (157, 0, 11), (158, 0, 11), (159, 0, 11), (160, 0, 7), (161, 0, 7), (162, 0, 63)])
def kc_X10_loads_0df2a5 : List (Nat × sf_I) := [(0, 2, [1, 1]),
  (1, 0, [3, 60]),
  (3, 31, [6, 0, 2, 0, 0, 0, 0]),
  (6, 20, [9, 11, 1]),
  (9, 0, [10, -1]),
  (10, 35, [0, 0]),
  (11, 4, [12, 0]),
  (12, 23, [15, 10, 5]),
  (15, 4, [16, 0]),
  (16, 23, [19, 10, 4]),
  (19, 32, [22, 1, 2, 6, 0, 0, 0, 0]),
  (22, 4, [23, 0]),
  (23, 23, [26, 10, 2]),
  (26, 4, [27, 0]),
  (27, 23, [30, 10, 13]),
  (30, 4, [31, 0]),
  (31, 23, [34, 10, 5]),
  (34, 2, [35, 1]),
  (35, 32, [38, 2, 4, 1, 0, 0, 0, 0]),
  (38, 19, [39]),
  (39, 4, [40, 0]),
  (40, 23, [43, 10, 5]),
  (43, 23, [46, 6, 9]),
  (46, 4, [47, 0]),
  (47, 23, [50, 10, 4]),
  (50, 23, [53, 6, 9]),
  (53, 9, [54, 1]),
  (54, 35, [0, 0])]
def kd_X10_loads_0df2a5_0 : List (Nat × sf_D × sf_M) := [(0, ([(1, 10, 0), (0, 0, 0)], [], [], 0, 0), (25, [])),
  (1, ([(1, 10, 0), (0, 0, 0)], [(0, 0, 0)], [(1, 0, 0, -2147483648, 2147483647, 0), (1, 4, 0, -2147483648, 2147483647, 0), (2, 0, 4, 1, 0, 0)], 0, 0), (24, [])),
  (3, ([(1, 10, 0), (0, 0, 0)], [(0, 0, 0), (0, 0, 0)], [(1, 0, 0, -2147483648, 2147483647, 0), (1, 4, 0, -2147483648, 2147483647, 0), (1, 3, 0, 60, 60, 0), (2, 0, 4, 1, 0, 0)], 0, 0), (23, [])),
  (6, ([(1, 10, 0), (0, 0, 0)], [(0, 0, 0)], [(1, 4, 0, -2147483648, 2147483647, 0), (1, 0, 0, 0, 1, 0), (3, 0, 4, 1, 60, 0)], 0, 0), (22, [])),
  (9, ([(1, 10, 0), (0, 0, 0)], [], [(1, 4, 0, -2147483648, 2147483647, 0)], 0, 0), (1, [])),
  (10, ([(1, 10, 0), (0, 0, 0)], [(0, 0, 0)], [(1, 4, 0, -2147483648, 2147483647, 0), (1, 0, 0, -1, -1, 0)], 0, 0), (0, [])),
  (11, ([(1, 10, 0), (0, 0, 0)], [], [(1, 4, 0, 1, 60, 0)], 0, 0), (21, [])),
  (12, ([(1, 10, 0), (0, 0, 0)], [(1, 10, 0)], [(1, 4, 0, 1, 60, 0)], 0, 0), (20, [])),
  (15, ([(1, 10, 0), (0, 0, 0)], [(1, 13, 0)], [(1, 4, 0, 1, 60, 0)], 0, 0), (19, [])),
  (16, ([(1, 10, 0), (0, 0, 0)], [(1, 10, 0), (1, 13, 0)], [(1, 4, 0, 1, 60, 0)], 0, 0), (18, [])),
  (19, ([(1, 10, 0), (0, 0, 0)], [(1, 6, 0), (1, 13, 0)], [(1, 4, 0, 1, 60, 0)], 0, 0), (17, [])),
  (22, ([(1, 10, 0), (0, 0, 0)], [], [(1, 4, 0, 1, 60, 0)], 0, 0), (16, [])),
  (23, ([(1, 10, 0), (0, 0, 0)], [(1, 10, 0)], [(1, 4, 0, 1, 60, 0)], 0, 0), (15, [])),
  (26, ([(1, 10, 0), (0, 0, 0)], [(1, 1, 0)], [(1, 4, 0, 1, 60, 0)], 0, 0), (14, [])),
  (27, ([(1, 10, 0), (0, 0, 0)], [(1, 10, 0), (1, 1, 0)], [(1, 4, 0, 1, 60, 0)], 0, 0), (13, [])),
  (30, ([(1, 10, 0), (0, 0, 0)], [(1, 7, 0), (1, 1, 0)], [(1, 4, 0, 1, 60, 0)], 0, 0), (12, []))]
def kd_X10_loads_0df2a5_1 : List (Nat × sf_D × sf_M) := [(31, ([(1, 10, 0), (0, 0, 0)], [(1, 10, 0), (1, 7, 0), (1, 1, 0)], [(1, 4, 0, 1, 60, 0)], 0, 0), (11, [])),
  (34, ([(1, 10, 0), (0, 0, 0)], [(1, 13, 0), (1, 7, 0), (1, 1, 0)], [(1, 4, 0, 1, 60, 0)], 0, 0), (10, [])),
  (35, ([(1, 10, 0), (0, 0, 0)], [(0, 0, 0), (1, 13, 0), (1, 7, 0), (1, 1, 0)], [(1, 4, 0, 1, 60, 0), (1, 9, 0, 1, 60, 0), (2, 9, 4, 1, 0, 0)], 0, 0), (9, [])),
  (38, ([(1, 10, 0), (0, 0, 0)], [(0, 0, 0)], [(1, 4, 0, 1, 60, 0), (1, 0, 0, -400, 400, 0)], 0, 0), (8, [])),
  (39, ([(1, 10, 0), (0, 0, 0)], [], [(1, 4, 0, 1, 60, 0)], 0, 0), (7, [])),
  (40, ([(1, 10, 0), (0, 0, 0)], [(1, 10, 0)], [(1, 4, 0, 1, 60, 0)], 0, 0), (6, [])),
  (43, ([(1, 10, 0), (0, 0, 0)], [(1, 13, 0)], [(1, 4, 0, 1, 60, 0)], 0, 0), (5, [])),
  (46, ([(1, 10, 0), (0, 0, 0)], [(0, 0, 2147483647)], [(1, 4, 0, 1, 60, 0), (1, 0, 0, -2147483648, 2147483647, 0), (1, 42029, 0, -2147483648, 2147483647, 0), (2, 0, 42029, 1, 0, 0)], 0, 0), (4, [])),
  (47, ([(1, 10, 0), (0, 0, 0)], [(1, 10, 0), (0, 0, 2147483647)], [(1, 4, 0, 1, 60, 0), (1, 0, 0, -2147483648, 2147483647, 0), (1, 42029, 0, -2147483648, 2147483647, 0), (2, 0, 42029, 1, 0, 0)], 0, 0), (3, [])),
  (50, ([(1, 10, 0), (0, 0, 0)], [(1, 6, 0), (0, 0, 2147483647)], [(1, 4, 0, 1, 60, 0), (1, 0, 0, -2147483648, 2147483647, 0), (1, 42029, 0, -2147483648, 2147483647, 0), (2, 0, 42029, 1, 0, 0)], 0, 0), (2, [])),
  (53, ([(1, 10, 0), (0, 0, 0)], [(0, 0, 2147483647), (0, 0, 2147483647)], [(1, 4, 0, 1, 60, 0), (1, 0, 0, -2147483648, 2147483647, 0), (1, 42029, 0, -2147483648, 2147483647, 0), (1, 3, 0, -2147483648, 2147483647, 0), (1, 21029, 0, -2147483648, 2147483647, 0), (2, 0, 42029, 1, 0, 0), (2, 3, 21029, 1, 0, 0)], 0, 0), (1, []))]
def kd_X10_loads_0df2a5_2 : List (Nat × sf_D × sf_M) := [(54, ([(1, 10, 0), (0, 0, 0)], [(0, 0, 0)], [(1, 4, 0, 1, 60, 0), (1, 42029, 0, -2147483648, 2147483647, 0), (1, 21029, 0, -2147483648, 2147483647, 0), (1, 0, 0, -2147483648, 2147483647, 0)], 0, 0), (0, []))]
def kd_X10_loads_0df2a5 : List (Nat × sf_D × sf_M) := kd_X10_loads_0df2a5_0 ++ (kd_X10_loads_0df2a5_1 ++ (kd_X10_loads_0df2a5_2))
set_option maxRecDepth 100000 in
theorem kt_X10_loads_0df2a5 : sf_chk [kq_X10_isWithin_0d71f4, kq_X6_copyFrom_80a60b, kq_X1_passDays_13] kq_X10_loads_0df2a5 2 kc_X10_loads_0df2a5 kd_X10_loads_0df2a5 = true := by decide +kernel
set_option maxRecDepth 100000 in
theorem kl_X10_loads_0df2a5 : (kc_X10_loads_0df2a5).map (fun c => (c.1, sf_den ([Z_X10_isWithin, Z_X6_copyFrom, Z_X1_passDays] : List sf_X) c.2)) = L_X10_loads Z_X10_isWithin Z_X6_copyFrom Z_X1_passDays := rfl
theorem ct_X10_loads_0df2a5 : sf_ct kq_X10_loads_0df2a5 Z_X10_loads := by
  have h := sf_meth (K := [kq_X10_isWithin_0d71f4, kq_X6_copyFrom_80a60b, kq_X1_passDays_13]) (E := [Z_X10_isWithin, Z_X6_copyFrom, Z_X1_passDays]) (k := kq_X10_loads_0df2a5) (nL := 2) (C := kc_X10_loads_0df2a5) (D := kd_X10_loads_0df2a5) (fun m k hk => match m, hk with
    | 0, hk => (Option.some.inj hk) ▸ ct_X10_isWithin_0d71f4
    | 1, hk => (Option.some.inj hk) ▸ ct_X6_copyFrom_80a60b
    | 2, hk => (Option.some.inj hk) ▸ ct_X1_passDays_13
    | _ + 3, hk => (by cases hk)) kt_X10_loads_0df2a5
  rw [kl_X10_loads_0df2a5] at h
  exact h
def kq_X6_copyFrom_a07750 : sf_Q := ([(1, 14, 0), (1, 6, 0)], [], none, [], [(14, 7, 9), (163, 0, 11), (164, 0, 11), (165, 0, 11), (166, 0, 11), (167, 0, 7), (168, 0, 7), (169, 0, 63)])
def kc_X6_copyFrom_a07750 : List (Nat × sf_I) := [(0, 4, [1, 1]),
  (1, 23, [4, 6, 0]),
  (4, 0, [5, 0]),
  (5, 4, [6, 0]),
  (6, 23, [9, 6, 0]),
  (9, 0, [10, 0]),
  (10, 0, [12, 12]),
  (12, 38, [15]),
  (15, 4, [16, 1]),
  (16, 23, [19, 6, 1]),
  (19, 0, [20, 0]),
  (20, 4, [21, 0]),
  (21, 23, [24, 6, 1]),
  (24, 0, [25, 0]),
  (25, 0, [27, 12]),
  (27, 38, [30]),
  (30, 4, [31, 1]),
  (31, 23, [34, 6, 2]),
  (34, 0, [35, 0]),
  (35, 4, [36, 0]),
  (36, 23, [39, 6, 2]),
  (39, 0, [40, 0]),
  (40, 0, [42, 12]),
  (42, 38, [45]),
  (45, 4, [46, 1]),
  (46, 23, [49, 6, 3]),
  (49, 0, [50, 0]),
  (50, 4, [51, 0]),
  (51, 23, [54, 6, 3]),
  (54, 0, [55, 0]),
  (55, 0, [57, 12]),
  (57, 38, [60]),
  (60, 4, [61, 1]),
  (61, 23, [64, 6, 4]),
  (64, 0, [65, 0]),
  (65, 4, [66, 0]),
  (66, 23, [69, 6, 4]),
  (69, 0, [70, 0]),
  (70, 0, [72, 8]),
  (72, 38, [75]),
  (75, 4, [76, 1]),
  (76, 23, [79, 6, 5]),
  (79, 0, [80, 0]),
  (80, 4, [81, 0]),
  (81, 23, [84, 6, 5]),
  (84, 0, [85, 0]),
  (85, 0, [87, 8]),
  (87, 38, [90]),
  (90, 4, [91, 1]),
  (91, 23, [94, 6, 6]),
  (94, 0, [95, 0]),
  (95, 4, [96, 0]),
  (96, 23, [99, 6, 6]),
  (99, 0, [100, 0]),
  (100, 0, [102, 64]),
  (102, 38, [105]),
  (105, 4, [106, 0]),
  (106, 4, [107, 1]),
  (107, 23, [110, 6, 7]),
  (110, 24, [113, 6, 7, 0]),
  (113, 4, [114, 0]),
  (114, 4, [115, 1]),
  (115, 23, [118, 6, 8]),
  (118, 24, [121, 6, 8, 0]),
  (121, 4, [122, 0]),
  (122, 4, [123, 1]),
  (123, 23, [126, 6, 9]),
  (126, 24, [129, 6, 9, 0]),
  (129, 37, [0, 0])]
def kd_X6_copyFrom_a07750_0 : List (Nat × sf_D × sf_M) := [(0, ([(1, 14, 0), (1, 6, 0)], [], [], 0, 0), (68, [])),
  (1, ([(1, 14, 0), (1, 6, 0)], [(1, 6, 0)], [], 0, 0), (67, [])),
  (4, ([(1, 14, 0), (1, 6, 0)], [(1, 149, 0)], [], 0, 0), (66, [])),
  (5, ([(1, 14, 0), (1, 6, 0)], [(0, 0, 0), (1, 149, 0)], [(1, 3, 0, 0, 0, 0)], 0, 0), (65, [])),
  (6, ([(1, 14, 0), (1, 6, 0)], [(1, 14, 0), (0, 0, 0), (1, 149, 0)], [(1, 3, 0, 0, 0, 0)], 0, 0), (64, [])),
  (9, ([(1, 14, 0), (1, 6, 0)], [(1, 163, 0), (0, 0, 0), (1, 149, 0)], [(1, 3, 0, 0, 0, 0)], 0, 0), (63, [])),
  (10, ([(1, 14, 0), (1, 6, 0)], [(0, 0, 0), (1, 163, 0), (0, 0, 0), (1, 149, 0)], [(1, 3, 0, 0, 0, 0), (1, 9, 0, 0, 0, 0)], 0, 0), (62, [])),
  (12, ([(1, 14, 0), (1, 6, 0)], [(0, 0, 0), (0, 0, 0), (1, 163, 0), (0, 0, 0), (1, 149, 0)], [(1, 3, 0, 0, 0, 0), (1, 9, 0, 0, 0, 0), (1, 12, 0, 12, 12, 0)], 0, 0), (61, [])),
  (15, ([(1, 14, 0), (1, 6, 0)], [], [], 0, 0), (60, [])),
  (16, ([(1, 14, 0), (1, 6, 0)], [(1, 6, 0)], [], 0, 0), (59, [])),
  (19, ([(1, 14, 0), (1, 6, 0)], [(1, 150, 0)], [], 0, 0), (58, [])),
  (20, ([(1, 14, 0), (1, 6, 0)], [(0, 0, 0), (1, 150, 0)], [(1, 3, 0, 0, 0, 0)], 0, 0), (57, [])),
  (21, ([(1, 14, 0), (1, 6, 0)], [(1, 14, 0), (0, 0, 0), (1, 150, 0)], [(1, 3, 0, 0, 0, 0)], 0, 0), (56, [])),
  (24, ([(1, 14, 0), (1, 6, 0)], [(1, 164, 0), (0, 0, 0), (1, 150, 0)], [(1, 3, 0, 0, 0, 0)], 0, 0), (55, [])),
  (25, ([(1, 14, 0), (1, 6, 0)], [(0, 0, 0), (1, 164, 0), (0, 0, 0), (1, 150, 0)], [(1, 3, 0, 0, 0, 0), (1, 9, 0, 0, 0, 0)], 0, 0), (54, [])),
  (27, ([(1, 14, 0), (1, 6, 0)], [(0, 0, 0), (0, 0, 0), (1, 164, 0), (0, 0, 0), (1, 150, 0)], [(1, 3, 0, 0, 0, 0), (1, 9, 0, 0, 0, 0), (1, 12, 0, 12, 12, 0)], 0, 0), (53, [])),
  (30, ([(1, 14, 0), (1, 6, 0)], [], [], 0, 0), (52, [])),
  (31, ([(1, 14, 0), (1, 6, 0)], [(1, 6, 0)], [], 0, 0), (51, [])),
  (34, ([(1, 14, 0), (1, 6, 0)], [(1, 151, 0)], [], 0, 0), (50, [])),
  (35, ([(1, 14, 0), (1, 6, 0)], [(0, 0, 0), (1, 151, 0)], [(1, 3, 0, 0, 0, 0)], 0, 0), (49, [])),
  (36, ([(1, 14, 0), (1, 6, 0)], [(1, 14, 0), (0, 0, 0), (1, 151, 0)], [(1, 3, 0, 0, 0, 0)], 0, 0), (48, []))]
def kd_X6_copyFrom_a07750_1 : List (Nat × sf_D × sf_M) := [(39, ([(1, 14, 0), (1, 6, 0)], [(1, 165, 0), (0, 0, 0), (1, 151, 0)], [(1, 3, 0, 0, 0, 0)], 0, 0), (47, [])),
  (40, ([(1, 14, 0), (1, 6, 0)], [(0, 0, 0), (1, 165, 0), (0, 0, 0), (1, 151, 0)], [(1, 3, 0, 0, 0, 0), (1, 9, 0, 0, 0, 0)], 0, 0), (46, [])),
  (42, ([(1, 14, 0), (1, 6, 0)], [(0, 0, 0), (0, 0, 0), (1, 165, 0), (0, 0, 0), (1, 151, 0)], [(1, 3, 0, 0, 0, 0), (1, 9, 0, 0, 0, 0), (1, 12, 0, 12, 12, 0)], 0, 0), (45, [])),
  (45, ([(1, 14, 0), (1, 6, 0)], [], [], 0, 0), (44, [])),
  (46, ([(1, 14, 0), (1, 6, 0)], [(1, 6, 0)], [], 0, 0), (43, [])),
  (49, ([(1, 14, 0), (1, 6, 0)], [(1, 152, 0)], [], 0, 0), (42, [])),
  (50, ([(1, 14, 0), (1, 6, 0)], [(0, 0, 0), (1, 152, 0)], [(1, 3, 0, 0, 0, 0)], 0, 0), (41, [])),
  (51, ([(1, 14, 0), (1, 6, 0)], [(1, 14, 0), (0, 0, 0), (1, 152, 0)], [(1, 3, 0, 0, 0, 0)], 0, 0), (40, [])),
  (54, ([(1, 14, 0), (1, 6, 0)], [(1, 166, 0), (0, 0, 0), (1, 152, 0)], [(1, 3, 0, 0, 0, 0)], 0, 0), (39, [])),
  (55, ([(1, 14, 0), (1, 6, 0)], [(0, 0, 0), (1, 166, 0), (0, 0, 0), (1, 152, 0)], [(1, 3, 0, 0, 0, 0), (1, 9, 0, 0, 0, 0)], 0, 0), (38, [])),
  (57, ([(1, 14, 0), (1, 6, 0)], [(0, 0, 0), (0, 0, 0), (1, 166, 0), (0, 0, 0), (1, 152, 0)], [(1, 3, 0, 0, 0, 0), (1, 9, 0, 0, 0, 0), (1, 12, 0, 12, 12, 0)], 0, 0), (37, [])),
  (60, ([(1, 14, 0), (1, 6, 0)], [], [], 0, 0), (36, [])),
  (61, ([(1, 14, 0), (1, 6, 0)], [(1, 6, 0)], [], 0, 0), (35, [])),
  (64, ([(1, 14, 0), (1, 6, 0)], [(1, 153, 0)], [], 0, 0), (34, [])),
  (65, ([(1, 14, 0), (1, 6, 0)], [(0, 0, 0), (1, 153, 0)], [(1, 3, 0, 0, 0, 0)], 0, 0), (33, [])),
  (66, ([(1, 14, 0), (1, 6, 0)], [(1, 14, 0), (0, 0, 0), (1, 153, 0)], [(1, 3, 0, 0, 0, 0)], 0, 0), (32, [])),
  (69, ([(1, 14, 0), (1, 6, 0)], [(1, 167, 0), (0, 0, 0), (1, 153, 0)], [(1, 3, 0, 0, 0, 0)], 0, 0), (31, [])),
  (70, ([(1, 14, 0), (1, 6, 0)], [(0, 0, 0), (1, 167, 0), (0, 0, 0), (1, 153, 0)], [(1, 3, 0, 0, 0, 0), (1, 9, 0, 0, 0, 0)], 0, 0), (30, []))]
def kd_X6_copyFrom_a07750_2 : List (Nat × sf_D × sf_M) := [(72, ([(1, 14, 0), (1, 6, 0)], [(0, 0, 0), (0, 0, 0), (1, 167, 0), (0, 0, 0), (1, 153, 0)], [(1, 3, 0, 0, 0, 0), (1, 9, 0, 0, 0, 0), (1, 12, 0, 8, 8, 0)], 0, 0), (29, [])),
  (75, ([(1, 14, 0), (1, 6, 0)], [], [], 0, 0), (28, [])),
  (76, ([(1, 14, 0), (1, 6, 0)], [(1, 6, 0)], [], 0, 0), (27, [])),
  (79, ([(1, 14, 0), (1, 6, 0)], [(1, 154, 0)], [], 0, 0), (26, [])),
  (80, ([(1, 14, 0), (1, 6, 0)], [(0, 0, 0), (1, 154, 0)], [(1, 3, 0, 0, 0, 0)], 0, 0), (25, [])),
  (81, ([(1, 14, 0), (1, 6, 0)], [(1, 14, 0), (0, 0, 0), (1, 154, 0)], [(1, 3, 0, 0, 0, 0)], 0, 0), (24, [])),
  (84, ([(1, 14, 0), (1, 6, 0)], [(1, 168, 0), (0, 0, 0), (1, 154, 0)], [(1, 3, 0, 0, 0, 0)], 0, 0), (23, [])),
  (85, ([(1, 14, 0), (1, 6, 0)], [(0, 0, 0), (1, 168, 0), (0, 0, 0), (1, 154, 0)], [(1, 3, 0, 0, 0, 0), (1, 9, 0, 0, 0, 0)], 0, 0), (22, [])),
  (87, ([(1, 14, 0), (1, 6, 0)], [(0, 0, 0), (0, 0, 0), (1, 168, 0), (0, 0, 0), (1, 154, 0)], [(1, 3, 0, 0, 0, 0), (1, 9, 0, 0, 0, 0), (1, 12, 0, 8, 8, 0)], 0, 0), (21, [])),
  (90, ([(1, 14, 0), (1, 6, 0)], [], [], 0, 0), (20, [])),
  (91, ([(1, 14, 0), (1, 6, 0)], [(1, 6, 0)], [], 0, 0), (19, [])),
  (94, ([(1, 14, 0), (1, 6, 0)], [(1, 155, 0)], [], 0, 0), (18, [])),
  (95, ([(1, 14, 0), (1, 6, 0)], [(0, 0, 0), (1, 155, 0)], [(1, 3, 0, 0, 0, 0)], 0, 0), (17, [])),
  (96, ([(1, 14, 0), (1, 6, 0)], [(1, 14, 0), (0, 0, 0), (1, 155, 0)], [(1, 3, 0, 0, 0, 0)], 0, 0), (16, [])),
  (99, ([(1, 14, 0), (1, 6, 0)], [(1, 169, 0), (0, 0, 0), (1, 155, 0)], [(1, 3, 0, 0, 0, 0)], 0, 0), (15, [])),
  (100, ([(1, 14, 0), (1, 6, 0)], [(0, 0, 0), (1, 169, 0), (0, 0, 0), (1, 155, 0)], [(1, 3, 0, 0, 0, 0), (1, 9, 0, 0, 0, 0)], 0, 0), (14, [])),
  (102, ([(1, 14, 0), (1, 6, 0)], [(0, 0, 0), (0, 0, 0), (1, 169, 0), (0, 0, 0), (1, 155, 0)], [(1, 3, 0, 0, 0, 0), (1, 9, 0, 0, 0, 0), (1, 12, 0, 64, 64, 0)], 0, 0), (13, [])),
  (105, ([(1, 14, 0), (1, 6, 0)], [], [], 0, 0), (12, [])),
  (106, ([(1, 14, 0), (1, 6, 0)], [(1, 14, 0)], [], 0, 0), (11, [])),
  (107, ([(1, 14, 0), (1, 6, 0)], [(1, 6, 0), (1, 14, 0)], [], 0, 0), (10, []))]
def kd_X6_copyFrom_a07750_3 : List (Nat × sf_D × sf_M) := [(110, ([(1, 14, 0), (1, 6, 0)], [(0, 0, 400), (1, 14, 0)], [(1, 3, 0, 0, 400, 0), (1, 21023, 0, -2147483648, 2147483647, 0), (2, 3, 21023, 1, 0, 0)], 0, 0), (9, [])),
  (113, ([(1, 14, 0), (1, 6, 0)], [], [(1, 45023, 0, 0, 400, 0), (1, 21023, 0, -2147483648, 2147483647, 0), (2, 45023, 21023, 1, 0, 0)], 0, 0), (8, [])),
  (114, ([(1, 14, 0), (1, 6, 0)], [(1, 14, 0)], [(1, 45023, 0, 0, 400, 0), (1, 21023, 0, -2147483648, 2147483647, 0), (2, 45023, 21023, 1, 0, 0)], 0, 0), (7, [])),
  (115, ([(1, 14, 0), (1, 6, 0)], [(1, 6, 0), (1, 14, 0)], [(1, 45023, 0, 0, 400, 0), (1, 21023, 0, -2147483648, 2147483647, 0), (2, 45023, 21023, 1, 0, 0)], 0, 0), (6, [])),
  (118, ([(1, 14, 0), (1, 6, 0)], [(0, 0, 2147483647), (1, 14, 0)], [(1, 45023, 0, 0, 400, 0), (1, 21023, 0, -2147483648, 2147483647, 0), (1, 3, 0, -2147483648, 2147483647, 0), (1, 21026, 0, -2147483648, 2147483647, 0), (2, 45023, 21023, 1, 0, 0), (2, 3, 21026, 1, 0, 0)], 0, 0), (5, [])),
  (121, ([(1, 14, 0), (1, 6, 0)], [], [(1, 45023, 0, 0, 400, 0), (1, 21023, 0, -2147483648, 2147483647, 0), (1, 45026, 0, -2147483648, 2147483647, 0), (1, 21026, 0, -2147483648, 2147483647, 0), (2, 45023, 21023, 1, 0, 0), (2, 45026, 21026, 1, 0, 0)], 0, 0), (4, [])),
  (122, ([(1, 14, 0), (1, 6, 0)], [(1, 14, 0)], [(1, 45023, 0, 0, 400, 0), (1, 21023, 0, -2147483648, 2147483647, 0), (1, 45026, 0, -2147483648, 2147483647, 0), (1, 21026, 0, -2147483648, 2147483647, 0), (2, 45023, 21023, 1, 0, 0), (2, 45026, 21026, 1, 0, 0)], 0, 0), (3, []))]
def kd_X6_copyFrom_a07750_4 : List (Nat × sf_D × sf_M) := [(123, ([(1, 14, 0), (1, 6, 0)], [(1, 6, 0), (1, 14, 0)], [(1, 45023, 0, 0, 400, 0), (1, 21023, 0, -2147483648, 2147483647, 0), (1, 45026, 0, -2147483648, 2147483647, 0), (1, 21026, 0, -2147483648, 2147483647, 0), (2, 45023, 21023, 1, 0, 0), (2, 45026, 21026, 1, 0, 0)], 0, 0), (2, [])),
  (126, ([(1, 14, 0), (1, 6, 0)], [(0, 0, 2147483647), (1, 14, 0)], [(1, 45023, 0, 0, 400, 0), (1, 21023, 0, -2147483648, 2147483647, 0), (1, 45026, 0, -2147483648, 2147483647, 0), (1, 21026, 0, -2147483648, 2147483647, 0), (1, 3, 0, -2147483648, 2147483647, 0), (1, 21029, 0, -2147483648, 2147483647, 0), (2, 45023, 21023, 1, 0, 0), (2, 45026, 21026, 1, 0, 0), (2, 3, 21029, 1, 0, 0)], 0, 0), (1, [])),
  (129, ([(1, 14, 0), (1, 6, 0)], [], [(1, 45023, 0, 0, 400, 0), (1, 21023, 0, -2147483648, 2147483647, 0), (1, 45026, 0, -2147483648, 2147483647, 0), (1, 21026, 0, -2147483648, 2147483647, 0), (1, 45029, 0, -2147483648, 2147483647, 0), (1, 21029, 0, -2147483648, 2147483647, 0), (2, 45023, 21023, 1, 0, 0), (2, 45026, 21026, 1, 0, 0), (2, 45029, 21029, 1, 0, 0)], 0, 0), (0, []))]
def kd_X6_copyFrom_a07750 : List (Nat × sf_D × sf_M) := kd_X6_copyFrom_a07750_0 ++ (kd_X6_copyFrom_a07750_1 ++ (kd_X6_copyFrom_a07750_2 ++ (kd_X6_copyFrom_a07750_3 ++ (kd_X6_copyFrom_a07750_4))))
set_option maxRecDepth 100000 in
theorem kt_X6_copyFrom_a07750 : sf_chk [] kq_X6_copyFrom_a07750 2 kc_X6_copyFrom_a07750 kd_X6_copyFrom_a07750 = true := by decide +kernel
set_option maxRecDepth 100000 in
theorem kl_X6_copyFrom_a07750 : (kc_X6_copyFrom_a07750).map (fun c => (c.1, sf_den ([] : List sf_X) c.2)) = L_X6_copyFrom := rfl
theorem ct_X6_copyFrom_a07750 : sf_ct kq_X6_copyFrom_a07750 Z_X6_copyFrom := by
  have h := sf_meth (K := []) (E := []) (k := kq_X6_copyFrom_a07750) (nL := 2) (C := kc_X6_copyFrom_a07750) (D := kd_X6_copyFrom_a07750) (fun m k hk => match m, hk with
    | _ + 0, hk => (by cases hk)) kt_X6_copyFrom_a07750
  rw [kl_X6_copyFrom_a07750] at h
  exact h
def kq_X6_looksLike_c63286 : sf_Q := ([(1, 13, 0), (1, 14, 0)], [], some (0, 0, 0), [(1, 0, 0, 0, 1, 0)], [])
def kc_X6_looksLike_c63286 : List (Nat × sf_I) := [(0, 0, [1, 0]),
  (1, 5, [2, 2]),
  (2, 2, [3, 2]),
  (3, 0, [5, 12]),
  (5, 21, [8, 31, 5]),
  (8, 4, [9, 0]),
  (9, 23, [12, 6, 0]),
  (12, 2, [13, 2]),
  (13, 25, [14, 1]),
  (14, 4, [15, 1]),
  (15, 23, [18, 6, 0]),
  (18, 2, [19, 2]),
  (19, 25, [20, 1]),
  (20, 21, [23, 25, 0]),
  (23, 0, [24, 0]),
  (24, 36, [0, 0]),
  (25, 8, [28, 2, 1]),
  (28, 22, [2]),
  (31, 0, [32, 0]),
  (32, 5, [33, 2]),
  (33, 2, [34, 2]),
  (34, 0, [36, 8]),
  (36, 21, [39, 62, 5]),
  (39, 4, [40, 0]),
  (40, 23, [43, 6, 4]),
  (43, 2, [44, 2]),
  (44, 25, [45, 1]),
  (45, 4, [46, 1]),
  (46, 23, [49, 6, 4]),
  (49, 2, [50, 2]),
  (50, 25, [51, 1]),
  (51, 21, [54, 56, 0]),
  (54, 0, [55, 0]),
  (55, 36, [0, 0]),
  (56, 8, [59, 2, 1]),
  (59, 22, [33]),
  (62, 0, [63, 1]),
  (63, 36, [0, 0])]
def kd_X6_looksLike_c63286_0 : List (Nat × sf_D × sf_M) := [(0, ([(1, 13, 0), (1, 14, 0), (8, 0, 0)], [], [], 0, 0), (340, [])),
  (1, ([(1, 13, 0), (1, 14, 0), (8, 0, 0)], [(0, 0, 0)], [(1, 0, 0, 0, 0, 0)], 0, 0), (339, [])),
  (2, ([(1, 13, 0), (1, 14, 0), (0, 0, 0)], [], [(1, 7, 0, 0, 12, 0)], 0, 0), (146, [(16, 7, 12, 0)])),
  (3, ([(1, 13, 0), (1, 14, 0), (0, 0, 0)], [(0, 0, 0)], [(1, 7, 0, 0, 12, 0), (1, 0, 0, 0, 12, 0), (2, 0, 7, 1, 0, 0)], 0, 0), (145, [(16, 7, 12, 0)])),
  (5, ([(1, 13, 0), (1, 14, 0), (0, 0, 0)], [(0, 0, 0), (0, 0, 0)], [(1, 7, 0, 0, 12, 0), (1, 0, 0, 0, 12, 0), (1, 3, 0, 12, 12, 0), (2, 0, 7, 1, 0, 0)], 0, 0), (144, [(16, 7, 12, 0)])),
  (8, ([(1, 13, 0), (1, 14, 0), (0, 0, 0)], [], [(1, 7, 0, 0, 11, 0)], 0, 0), (141, [(16, 7, 12, 0)])),
  (9, ([(1, 13, 0), (1, 14, 0), (0, 0, 0)], [(1, 13, 0)], [(1, 7, 0, 0, 11, 0)], 0, 0), (140, [(16, 7, 12, 0)])),
  (12, ([(1, 13, 0), (1, 14, 0), (0, 0, 0)], [(1, 156, 0)], [(1, 7, 0, 0, 11, 0)], 0, 0), (139, [(16, 7, 12, 0)])),
  (13, ([(1, 13, 0), (1, 14, 0), (0, 0, 0)], [(0, 0, 0), (1, 156, 0)], [(1, 7, 0, 0, 11, 0), (1, 3, 0, 0, 11, 0), (2, 3, 7, 1, 0, 0)], 0, 0), (138, [(16, 7, 12, 0)])),
  (14, ([(1, 13, 0), (1, 14, 0), (0, 0, 0)], [(0, 0, 0)], [(1, 7, 0, 0, 11, 0), (1, 0, 0, 0, 999, 0)], 0, 0), (137, [(16, 7, 12, 0)])),
  (15, ([(1, 13, 0), (1, 14, 0), (0, 0, 0)], [(1, 14, 0), (0, 0, 0)], [(1, 7, 0, 0, 11, 0), (1, 0, 0, 0, 999, 0)], 0, 0), (136, [(16, 7, 12, 0)])),
  (18, ([(1, 13, 0), (1, 14, 0), (0, 0, 0)], [(1, 163, 0), (0, 0, 0)], [(1, 7, 0, 0, 11, 0), (1, 0, 0, 0, 999, 0)], 0, 0), (135, [(16, 7, 12, 0)])),
  (19, ([(1, 13, 0), (1, 14, 0), (0, 0, 0)], [(0, 0, 0), (1, 163, 0), (0, 0, 0)], [(1, 7, 0, 0, 11, 0), (1, 0, 0, 0, 999, 0), (1, 6, 0, 0, 11, 0), (2, 6, 7, 1, 0, 0)], 0, 0), (134, [(16, 7, 12, 0)]))]
def kd_X6_looksLike_c63286_1 : List (Nat × sf_D × sf_M) := [(20, ([(1, 13, 0), (1, 14, 0), (0, 0, 0)], [(0, 0, 0), (0, 0, 0)], [(1, 7, 0, 0, 11, 0), (1, 0, 0, 0, 999, 0), (1, 3, 0, 0, 999, 0)], 0, 0), (133, [(16, 7, 12, 0)])),
  (23, ([(1, 13, 0), (1, 14, 0), (0, 0, 0)], [], [(1, 7, 0, 0, 11, 0)], 0, 0), (1, [])),
  (24, ([(1, 13, 0), (1, 14, 0), (0, 0, 0)], [(0, 0, 0)], [(1, 7, 0, 0, 11, 0), (1, 0, 0, 0, 0, 0)], 0, 0), (0, [])),
  (25, ([(1, 13, 0), (1, 14, 0), (0, 0, 0)], [], [(1, 7, 0, 0, 11, 0)], 0, 0), (132, [(16, 7, 12, 0)])),
  (28, ([(1, 13, 0), (1, 14, 0), (0, 0, 0)], [], [(1, 7, 0, 1, 12, 0)], 0, 0), (147, [(16, 7, 12, 0)])),
  (31, ([(1, 13, 0), (1, 14, 0), (0, 0, 0)], [], [(1, 7, 0, 12, 12, 0)], 0, 0), (143, [])),
  (32, ([(1, 13, 0), (1, 14, 0), (0, 0, 0)], [(0, 0, 0)], [(1, 7, 0, 12, 12, 0), (1, 0, 0, 0, 0, 0)], 0, 0), (142, [])),
  (33, ([(1, 13, 0), (1, 14, 0), (0, 0, 0)], [], [(1, 7, 0, 0, 8, 0)], 0, 0), (13, [(16, 7, 8, 0)])),
  (34, ([(1, 13, 0), (1, 14, 0), (0, 0, 0)], [(0, 0, 0)], [(1, 7, 0, 0, 8, 0), (1, 0, 0, 0, 8, 0), (2, 0, 7, 1, 0, 0)], 0, 0), (12, [(16, 7, 8, 0)])),
  (36, ([(1, 13, 0), (1, 14, 0), (0, 0, 0)], [(0, 0, 0), (0, 0, 0)], [(1, 7, 0, 0, 8, 0), (1, 0, 0, 0, 8, 0), (1, 3, 0, 8, 8, 0), (2, 0, 7, 1, 0, 0)], 0, 0), (11, [(16, 7, 8, 0)])),
  (39, ([(1, 13, 0), (1, 14, 0), (0, 0, 0)], [], [(1, 7, 0, 0, 7, 0)], 0, 0), (10, [(16, 7, 8, 0)])),
  (40, ([(1, 13, 0), (1, 14, 0), (0, 0, 0)], [(1, 13, 0)], [(1, 7, 0, 0, 7, 0)], 0, 0), (9, [(16, 7, 8, 0)])),
  (43, ([(1, 13, 0), (1, 14, 0), (0, 0, 0)], [(1, 160, 0)], [(1, 7, 0, 0, 7, 0)], 0, 0), (8, [(16, 7, 8, 0)])),
  (44, ([(1, 13, 0), (1, 14, 0), (0, 0, 0)], [(0, 0, 0), (1, 160, 0)], [(1, 7, 0, 0, 7, 0), (1, 3, 0, 0, 7, 0), (2, 3, 7, 1, 0, 0)], 0, 0), (7, [(16, 7, 8, 0)]))]
def kd_X6_looksLike_c63286_2 : List (Nat × sf_D × sf_M) := [(45, ([(1, 13, 0), (1, 14, 0), (0, 0, 0)], [(0, 0, 0)], [(1, 7, 0, 0, 7, 0), (1, 0, 0, -2147483648, 2147483647, 0)], 0, 0), (6, [(16, 7, 8, 0)])),
  (46, ([(1, 13, 0), (1, 14, 0), (0, 0, 0)], [(1, 14, 0), (0, 0, 0)], [(1, 7, 0, 0, 7, 0), (1, 0, 0, -2147483648, 2147483647, 0)], 0, 0), (5, [(16, 7, 8, 0)])),
  (49, ([(1, 13, 0), (1, 14, 0), (0, 0, 0)], [(1, 167, 0), (0, 0, 0)], [(1, 7, 0, 0, 7, 0), (1, 0, 0, -2147483648, 2147483647, 0)], 0, 0), (4, [(16, 7, 8, 0)])),
  (50, ([(1, 13, 0), (1, 14, 0), (0, 0, 0)], [(0, 0, 0), (1, 167, 0), (0, 0, 0)], [(1, 7, 0, 0, 7, 0), (1, 0, 0, -2147483648, 2147483647, 0), (1, 6, 0, 0, 7, 0), (2, 6, 7, 1, 0, 0)], 0, 0), (3, [(16, 7, 8, 0)])),
  (51, ([(1, 13, 0), (1, 14, 0), (0, 0, 0)], [(0, 0, 0), (0, 0, 0)], [(1, 7, 0, 0, 7, 0), (1, 0, 0, -2147483648, 2147483647, 0), (1, 3, 0, -2147483648, 2147483647, 0)], 0, 0), (2, [(16, 7, 8, 0)])),
  (54, ([(1, 13, 0), (1, 14, 0), (0, 0, 0)], [], [(1, 7, 0, 0, 7, 0)], 0, 0), (1, [])),
  (55, ([(1, 13, 0), (1, 14, 0), (0, 0, 0)], [(0, 0, 0)], [(1, 7, 0, 0, 7, 0), (1, 0, 0, 0, 0, 0)], 0, 0), (0, [])),
  (56, ([(1, 13, 0), (1, 14, 0), (0, 0, 0)], [], [(1, 7, 0, 0, 7, 0)], 0, 0), (0, [(16, 7, 8, 0)])),
  (59, ([(1, 13, 0), (1, 14, 0), (0, 0, 0)], [], [(1, 7, 0, 1, 8, 0)], 0, 0), (14, [(16, 7, 8, 0)])),
  (62, ([(1, 13, 0), (1, 14, 0), (0, 0, 0)], [], [(1, 7, 0, 8, 8, 0)], 0, 0), (1, [])),
  (63, ([(1, 13, 0), (1, 14, 0), (0, 0, 0)], [(0, 0, 0)], [(1, 7, 0, 8, 8, 0), (1, 0, 0, 1, 1, 0)], 0, 0), (0, []))]
def kd_X6_looksLike_c63286 : List (Nat × sf_D × sf_M) := kd_X6_looksLike_c63286_0 ++ (kd_X6_looksLike_c63286_1 ++ (kd_X6_looksLike_c63286_2))
set_option maxRecDepth 100000 in
theorem kt_X6_looksLike_c63286 : sf_chk [] kq_X6_looksLike_c63286 3 kc_X6_looksLike_c63286 kd_X6_looksLike_c63286 = true := by decide +kernel
set_option maxRecDepth 100000 in
theorem kl_X6_looksLike_c63286 : (kc_X6_looksLike_c63286).map (fun c => (c.1, sf_den ([] : List sf_X) c.2)) = L_X6_looksLike := rfl
theorem ct_X6_looksLike_c63286 : sf_ct kq_X6_looksLike_c63286 Z_X6_looksLike := by
  have h := sf_meth (K := []) (E := []) (k := kq_X6_looksLike_c63286) (nL := 3) (C := kc_X6_looksLike_c63286) (D := kd_X6_looksLike_c63286) (fun m k hk => match m, hk with
    | _ + 0, hk => (by cases hk)) kt_X6_looksLike_c63286
  rw [kl_X6_looksLike_c63286] at h
  exact h
def kq_X10_settles_4c18a7 : sf_Q := ([(1, 10, 0)], [], some (0, 0, 0), [(1, 0, 0, -1, 400, 0)], [(1, 2, 3), (13, 7, 9), (14, 7, 9), (100, 0, 5), (101, 0, 5), (156, 0, 11), (157, 0, 11), (158, 0, 11), (159, 0, 11), (160, 0, 7), (161, 0, 7), (162, 0, 63), (163, 0, 11), (164, 0, 11), (165, 0, 11), (166, 0, 11), (167, 0, 7), (168, 0, 7), (169, 0, 63)])
def kc_X10_settles_4c18a7 : List (Nat × sf_I) := [(0, 4, [1, 0]),
  (1, 23, [4, 10, 6]),
  (4, 4, [5, 0]),
  (5, 23, [8, 10, 4]),
  (8, 32, [11, 0, 2, 6, 0, 0, 0, 0]),
  (11, 4, [12, 0]),
  (12, 23, [15, 10, 5]),
  (15, 4, [16, 0]),
  (16, 23, [19, 10, 4]),
  (19, 32, [22, 1, 2, 6, 0, 0, 0, 0]),
  (22, 4, [23, 0]),
  (23, 23, [26, 10, 2]),
  (26, 4, [27, 0]),
  (27, 23, [30, 10, 13]),
  (30, 4, [31, 0]),
  (31, 23, [34, 10, 5]),
  (34, 0, [35, 2]),
  (35, 32, [38, 2, 4, 1, 0, 0, 0, 0]),
  (38, 0, [39, 2]),
  (39, 21, [42, 44, 5]),
  (42, 0, [43, -1]),
  (43, 35, [0, 0]),
  (44, 0, [45, 0]),
  (45, 5, [46, 1]),
  (46, 2, [47, 1]),
  (47, 0, [50, 200]),
  (50, 21, [53, 130, 5]),
  (53, 4, [54, 0]),
  (54, 23, [57, 10, 5]),
  (57, 4, [58, 0]),
  (58, 23, [61, 10, 6]),
  (61, 32, [64, 3, 2, 6, 0, 0, 0, 0]),
  (64, 20, [67, 75, 0]),
  (67, 4, [68, 0]),
  (68, 23, [71, 10, 6]),
  (71, 23, [74, 6, 7]),
  (74, 35, [0, 0]),
  (75, 4, [76, 0]),
  (76, 23, [79, 10, 5]),
  (79, 23, [82, 6, 7]),
  (82, 0, [85, 400]),
  (85, 21, [88, 90, 2]),
  (88, 0, [89, -1]),
  (89, 35, [0, 0]),
  (90, 4, [91, 0]),
  (91, 23, [94, 10, 2]),
  (94, 4, [95, 0]),
  (95, 23, [98, 10, 13]),
  (98, 4, [99, 0]),
  (99, 23, [102, 10, 5]),
  (102, 0, [103, 1]),
  (103, 32, [106, 2, 4, 1, 0, 0, 0, 0]),
  (106, 19, [107]),
  (107, 4, [108, 0]),
  (108, 23, [111, 10, 2]),
  (111, 4, [112, 0]),
  (112, 23, [115, 10, 13]),
  (115, 4, [116, 0]),
  (116, 23, [119, 10, 6]),
  (119, 0, [120, 1]),
  (120, 32, [123, 4, 4, 1, 0, 0, 0, 0]),
  (123, 19, [124]),
  (124, 8, [127, 1, 1]),
  (127, 22, [46]),
  (130, 0, [131, -1]),
  (131, 35, [0, 0])]
def kd_X10_settles_4c18a7_0 : List (Nat × sf_D × sf_M) := [(0, ([(1, 10, 0), (8, 0, 0)], [], [], 0, 0), (7254, [])),
  (1, ([(1, 10, 0), (8, 0, 0)], [(1, 10, 0)], [], 0, 0), (7253, [])),
  (4, ([(1, 10, 0), (8, 0, 0)], [(1, 14, 0)], [], 0, 0), (7252, [])),
  (5, ([(1, 10, 0), (8, 0, 0)], [(1, 10, 0), (1, 14, 0)], [], 0, 0), (7251, [])),
  (8, ([(1, 10, 0), (8, 0, 0)], [(1, 6, 0), (1, 14, 0)], [], 0, 0), (7250, [])),
  (11, ([(1, 10, 0), (8, 0, 0)], [], [], 0, 0), (7249, [])),
  (12, ([(1, 10, 0), (8, 0, 0)], [(1, 10, 0)], [], 0, 0), (7248, [])),
  (15, ([(1, 10, 0), (8, 0, 0)], [(1, 13, 0)], [], 0, 0), (7247, [])),
  (16, ([(1, 10, 0), (8, 0, 0)], [(1, 10, 0), (1, 13, 0)], [], 0, 0), (7246, [])),
  (19, ([(1, 10, 0), (8, 0, 0)], [(1, 6, 0), (1, 13, 0)], [], 0, 0), (7245, [])),
  (22, ([(1, 10, 0), (8, 0, 0)], [], [], 0, 0), (7244, [])),
  (23, ([(1, 10, 0), (8, 0, 0)], [(1, 10, 0)], [], 0, 0), (7243, [])),
  (26, ([(1, 10, 0), (8, 0, 0)], [(1, 1, 0)], [], 0, 0), (7242, [])),
  (27, ([(1, 10, 0), (8, 0, 0)], [(1, 10, 0), (1, 1, 0)], [], 0, 0), (7241, [])),
  (30, ([(1, 10, 0), (8, 0, 0)], [(1, 7, 0), (1, 1, 0)], [], 0, 0), (7240, [])),
  (31, ([(1, 10, 0), (8, 0, 0)], [(1, 10, 0), (1, 7, 0), (1, 1, 0)], [], 0, 0), (7239, [])),
  (34, ([(1, 10, 0), (8, 0, 0)], [(1, 13, 0), (1, 7, 0), (1, 1, 0)], [], 0, 0), (7238, [])),
  (35, ([(1, 10, 0), (8, 0, 0)], [(0, 0, 0), (1, 13, 0), (1, 7, 0), (1, 1, 0)], [(1, 9, 0, 2, 2, 0)], 0, 0), (7237, [])),
  (38, ([(1, 10, 0), (8, 0, 0)], [(0, 0, 0)], [(1, 0, 0, -400, 400, 0)], 0, 0), (7236, [])),
  (39, ([(1, 10, 0), (8, 0, 0)], [(0, 0, 0), (0, 0, 0)], [(1, 0, 0, -400, 400, 0), (1, 3, 0, 2, 2, 0)], 0, 0), (7235, [])),
  (42, ([(1, 10, 0), (8, 0, 0)], [], [], 0, 0), (1, [])),
  (43, ([(1, 10, 0), (8, 0, 0)], [(0, 0, 0)], [(1, 0, 0, -1, -1, 0)], 0, 0), (0, [])),
  (44, ([(1, 10, 0), (8, 0, 0)], [], [], 0, 0), (7234, [])),
  (45, ([(1, 10, 0), (8, 0, 0)], [(0, 0, 0)], [(1, 0, 0, 0, 0, 0)], 0, 0), (7233, [])),
  (46, ([(1, 10, 0), (0, 0, 0)], [], [(1, 4, 0, 0, 200, 0)], 0, 0), (32, [(36, 4, 200, 0)])),
  (47, ([(1, 10, 0), (0, 0, 0)], [(0, 0, 0)], [(1, 4, 0, 0, 200, 0), (1, 0, 0, 0, 200, 0), (2, 0, 4, 1, 0, 0)], 0, 0), (31, [(36, 4, 200, 0)]))]
def kd_X10_settles_4c18a7_1 : List (Nat × sf_D × sf_M) := [(50, ([(1, 10, 0), (0, 0, 0)], [(0, 0, 0), (0, 0, 0)], [(1, 4, 0, 0, 200, 0), (1, 0, 0, 0, 200, 0), (1, 3, 0, 200, 200, 0), (2, 0, 4, 1, 0, 0)], 0, 0), (30, [(36, 4, 200, 0)])),
  (53, ([(1, 10, 0), (0, 0, 0)], [], [(1, 4, 0, 0, 199, 0)], 0, 0), (29, [(36, 4, 200, 0)])),
  (54, ([(1, 10, 0), (0, 0, 0)], [(1, 10, 0)], [(1, 4, 0, 0, 199, 0)], 0, 0), (28, [(36, 4, 200, 0)])),
  (57, ([(1, 10, 0), (0, 0, 0)], [(1, 13, 0)], [(1, 4, 0, 0, 199, 0)], 0, 0), (27, [(36, 4, 200, 0)])),
  (58, ([(1, 10, 0), (0, 0, 0)], [(1, 10, 0), (1, 13, 0)], [(1, 4, 0, 0, 199, 0)], 0, 0), (26, [(36, 4, 200, 0)])),
  (61, ([(1, 10, 0), (0, 0, 0)], [(1, 14, 0), (1, 13, 0)], [(1, 4, 0, 0, 199, 0)], 0, 0), (25, [(36, 4, 200, 0)])),
  (64, ([(1, 10, 0), (0, 0, 0)], [(0, 0, 0)], [(1, 4, 0, 0, 199, 0), (1, 0, 0, 0, 1, 0)], 0, 0), (24, [(36, 4, 200, 0)])),
  (67, ([(1, 10, 0), (0, 0, 0)], [], [(1, 4, 0, 0, 199, 0)], 0, 0), (3, [])),
  (68, ([(1, 10, 0), (0, 0, 0)], [(1, 10, 0)], [(1, 4, 0, 0, 199, 0)], 0, 0), (2, [])),
  (71, ([(1, 10, 0), (0, 0, 0)], [(1, 14, 0)], [(1, 4, 0, 0, 199, 0)], 0, 0), (1, [])),
  (74, ([(1, 10, 0), (0, 0, 0)], [(0, 0, 400)], [(1, 4, 0, 0, 199, 0), (1, 0, 0, 0, 400, 0), (1, 45023, 0, -2147483648, 2147483647, 0), (2, 0, 45023, 1, 0, 0)], 0, 0), (0, [])),
  (75, ([(1, 10, 0), (0, 0, 0)], [], [(1, 4, 0, 0, 199, 0)], 0, 0), (23, [(36, 4, 200, 0)])),
  (76, ([(1, 10, 0), (0, 0, 0)], [(1, 10, 0)], [(1, 4, 0, 0, 199, 0)], 0, 0), (22, [(36, 4, 200, 0)])),
  (79, ([(1, 10, 0), (0, 0, 0)], [(1, 13, 0)], [(1, 4, 0, 0, 199, 0)], 0, 0), (21, [(36, 4, 200, 0)])),
  (82, ([(1, 10, 0), (0, 0, 0)], [(0, 0, 400)], [(1, 4, 0, 0, 199, 0), (1, 0, 0, 0, 400, 0), (1, 42023, 0, -2147483648, 2147483647, 0), (2, 0, 42023, 1, 0, 0)], 0, 0), (20, [(36, 4, 200, 0)]))]
def kd_X10_settles_4c18a7_2 : List (Nat × sf_D × sf_M) := [(85, ([(1, 10, 0), (0, 0, 0)], [(0, 0, 0), (0, 0, 400)], [(1, 4, 0, 0, 199, 0), (1, 0, 0, 0, 400, 0), (1, 42023, 0, -2147483648, 2147483647, 0), (1, 3, 0, 400, 400, 0), (2, 0, 42023, 1, 0, 0)], 0, 0), (19, [(36, 4, 200, 0)])),
  (88, ([(1, 10, 0), (0, 0, 0)], [], [(1, 4, 0, 0, 199, 0), (1, 42023, 0, 400, 400, 0)], 0, 0), (1, [])),
  (89, ([(1, 10, 0), (0, 0, 0)], [(0, 0, 0)], [(1, 4, 0, 0, 199, 0), (1, 42023, 0, 400, 400, 0), (1, 0, 0, -1, -1, 0)], 0, 0), (0, [])),
  (90, ([(1, 10, 0), (0, 0, 0)], [], [(1, 4, 0, 0, 199, 0), (1, 42023, 0, 0, 399, 0)], 0, 0), (18, [(36, 4, 200, 0)])),
  (91, ([(1, 10, 0), (0, 0, 0)], [(1, 10, 0)], [(1, 4, 0, 0, 199, 0), (1, 42023, 0, 0, 399, 0)], 0, 0), (17, [(36, 4, 200, 0)])),
  (94, ([(1, 10, 0), (0, 0, 0)], [(1, 1, 0)], [(1, 4, 0, 0, 199, 0), (1, 42023, 0, 0, 399, 0)], 0, 0), (16, [(36, 4, 200, 0)])),
  (95, ([(1, 10, 0), (0, 0, 0)], [(1, 10, 0), (1, 1, 0)], [(1, 4, 0, 0, 199, 0), (1, 42023, 0, 0, 399, 0)], 0, 0), (15, [(36, 4, 200, 0)])),
  (98, ([(1, 10, 0), (0, 0, 0)], [(1, 7, 0), (1, 1, 0)], [(1, 4, 0, 0, 199, 0), (1, 42023, 0, 0, 399, 0)], 0, 0), (14, [(36, 4, 200, 0)])),
  (99, ([(1, 10, 0), (0, 0, 0)], [(1, 10, 0), (1, 7, 0), (1, 1, 0)], [(1, 4, 0, 0, 199, 0), (1, 42023, 0, 0, 399, 0)], 0, 0), (13, [(36, 4, 200, 0)])),
  (102, ([(1, 10, 0), (0, 0, 0)], [(1, 13, 0), (1, 7, 0), (1, 1, 0)], [(1, 4, 0, 0, 199, 0), (1, 42023, 0, 0, 399, 0)], 0, 0), (12, [(36, 4, 200, 0)])),
  (103, ([(1, 10, 0), (0, 0, 0)], [(0, 0, 0), (1, 13, 0), (1, 7, 0), (1, 1, 0)], [(1, 4, 0, 0, 199, 0), (1, 42023, 0, 0, 399, 0), (1, 9, 0, 1, 1, 0)], 0, 0), (11, [(36, 4, 200, 0)]))]
def kd_X10_settles_4c18a7_3 : List (Nat × sf_D × sf_M) := [(106, ([(1, 10, 0), (0, 0, 0)], [(0, 0, 0)], [(1, 4, 0, 0, 199, 0), (1, 0, 0, -400, 400, 0)], 0, 0), (10, [(36, 4, 200, 0)])),
  (107, ([(1, 10, 0), (0, 0, 0)], [], [(1, 4, 0, 0, 199, 0)], 0, 0), (9, [(36, 4, 200, 0)])),
  (108, ([(1, 10, 0), (0, 0, 0)], [(1, 10, 0)], [(1, 4, 0, 0, 199, 0)], 0, 0), (8, [(36, 4, 200, 0)])),
  (111, ([(1, 10, 0), (0, 0, 0)], [(1, 1, 0)], [(1, 4, 0, 0, 199, 0)], 0, 0), (7, [(36, 4, 200, 0)])),
  (112, ([(1, 10, 0), (0, 0, 0)], [(1, 10, 0), (1, 1, 0)], [(1, 4, 0, 0, 199, 0)], 0, 0), (6, [(36, 4, 200, 0)])),
  (115, ([(1, 10, 0), (0, 0, 0)], [(1, 7, 0), (1, 1, 0)], [(1, 4, 0, 0, 199, 0)], 0, 0), (5, [(36, 4, 200, 0)])),
  (116, ([(1, 10, 0), (0, 0, 0)], [(1, 10, 0), (1, 7, 0), (1, 1, 0)], [(1, 4, 0, 0, 199, 0)], 0, 0), (4, [(36, 4, 200, 0)])),
  (119, ([(1, 10, 0), (0, 0, 0)], [(1, 14, 0), (1, 7, 0), (1, 1, 0)], [(1, 4, 0, 0, 199, 0)], 0, 0), (3, [(36, 4, 200, 0)])),
  (120, ([(1, 10, 0), (0, 0, 0)], [(0, 0, 0), (1, 14, 0), (1, 7, 0), (1, 1, 0)], [(1, 4, 0, 0, 199, 0), (1, 9, 0, 1, 1, 0)], 0, 0), (2, [(36, 4, 200, 0)])),
  (123, ([(1, 10, 0), (0, 0, 0)], [(0, 0, 0)], [(1, 4, 0, 0, 199, 0), (1, 0, 0, -400, 400, 0)], 0, 0), (1, [(36, 4, 200, 0)])),
  (124, ([(1, 10, 0), (0, 0, 0)], [], [(1, 4, 0, 0, 199, 0)], 0, 0), (0, [(36, 4, 200, 0)])),
  (127, ([(1, 10, 0), (0, 0, 0)], [], [(1, 4, 0, 1, 200, 0)], 0, 0), (33, [(36, 4, 200, 0)])),
  (130, ([(1, 10, 0), (0, 0, 0)], [], [(1, 4, 0, 200, 200, 0)], 0, 0), (1, [])),
  (131, ([(1, 10, 0), (0, 0, 0)], [(0, 0, 0)], [(1, 4, 0, 200, 200, 0), (1, 0, 0, -1, -1, 0)], 0, 0), (0, []))]
def kd_X10_settles_4c18a7 : List (Nat × sf_D × sf_M) := kd_X10_settles_4c18a7_0 ++ (kd_X10_settles_4c18a7_1 ++ (kd_X10_settles_4c18a7_2 ++ (kd_X10_settles_4c18a7_3)))
set_option maxRecDepth 100000 in
theorem kt_X10_settles_4c18a7 : sf_chk [kq_X6_copyFrom_a07750, kq_X6_copyFrom_80a60b, kq_X1_passDays_13, kq_X6_looksLike_c63286, kq_X1_passDays_14] kq_X10_settles_4c18a7 2 kc_X10_settles_4c18a7 kd_X10_settles_4c18a7 = true := by decide +kernel
set_option maxRecDepth 100000 in
theorem kl_X10_settles_4c18a7 : (kc_X10_settles_4c18a7).map (fun c => (c.1, sf_den ([Z_X6_copyFrom, Z_X6_copyFrom, Z_X1_passDays, Z_X6_looksLike, Z_X1_passDays] : List sf_X) c.2)) = L_X10_settles Z_X6_copyFrom Z_X1_passDays Z_X6_looksLike := rfl
theorem ct_X10_settles_4c18a7 : sf_ct kq_X10_settles_4c18a7 Z_X10_settles := by
  have h := sf_meth (K := [kq_X6_copyFrom_a07750, kq_X6_copyFrom_80a60b, kq_X1_passDays_13, kq_X6_looksLike_c63286, kq_X1_passDays_14]) (E := [Z_X6_copyFrom, Z_X6_copyFrom, Z_X1_passDays, Z_X6_looksLike, Z_X1_passDays]) (k := kq_X10_settles_4c18a7) (nL := 2) (C := kc_X10_settles_4c18a7) (D := kd_X10_settles_4c18a7) (fun m k hk => match m, hk with
    | 0, hk => (Option.some.inj hk) ▸ ct_X6_copyFrom_a07750
    | 1, hk => (Option.some.inj hk) ▸ ct_X6_copyFrom_80a60b
    | 2, hk => (Option.some.inj hk) ▸ ct_X1_passDays_13
    | 3, hk => (Option.some.inj hk) ▸ ct_X6_looksLike_c63286
    | 4, hk => (Option.some.inj hk) ▸ ct_X1_passDays_14
    | _ + 5, hk => (by cases hk)) kt_X10_settles_4c18a7
  rw [kl_X10_settles_4c18a7] at h
  exact h
def kq_X10_hunger_7e6f69 : sf_Q := ([(1, 10, 0), (0, 0, 0), (0, 0, 0), (0, 0, 0)], [], some (0, 0, 0), [], [(1, 2, 3), (13, 7, 9), (100, 0, 5), (101, 0, 5), (156, 0, 11), (157, 0, 11), (158, 0, 11), (159, 0, 11), (160, 0, 7), (161, 0, 7), (162, 0, 63)])
def kc_X10_hunger_7e6f69 : List (Nat × sf_I) := [(0, 4, [1, 0]),
  (1, 2, [2, 1]),
  (2, 2, [3, 2]),
  (3, 32, [6, 0, 3, 10, 0, 0, 0, 0]),
  (6, 20, [9, 18, 0]),
  (9, 2, [10, 3]),
  (10, 0, [12, 60]),
  (12, 31, [15, 1, 2, 0, 0, 0, 0]),
  (15, 20, [18, 20, 1]),
  (18, 0, [19, -1]),
  (19, 35, [0, 0]),
  (20, 2, [21, 1]),
  (21, 2, [22, 2]),
  (22, 31, [25, 2, 2, 0, 0, 0, 0]),
  (25, 5, [27, 4]),
  (27, 4, [28, 0]),
  (28, 23, [31, 10, 5]),
  (31, 4, [32, 0]),
  (32, 23, [35, 10, 4]),
  (35, 32, [38, 3, 2, 6, 0, 0, 0, 0]),
  (38, 4, [39, 0]),
  (39, 23, [42, 10, 2]),
  (42, 4, [43, 0]),
  (43, 23, [46, 10, 13]),
  (46, 4, [47, 0]),
  (47, 23, [50, 10, 5]),
  (50, 2, [51, 3]),
  (51, 32, [54, 4, 4, 1, 0, 0, 0, 0]),
  (54, 19, [55]),
  (55, 4, [56, 0]),
  (56, 23, [59, 10, 5]),
  (59, 23, [62, 6, 2]),
  (62, 2, [64, 4]),
  (64, 25, [65, 1]),
  (65, 4, [66, 0]),
  (66, 23, [69, 10, 4]),
  (69, 23, [72, 6, 2]),
  (72, 2, [74, 4]),
  (74, 25, [75, 1]),
  (75, 9, [76, 1]),
  (76, 35, [0, 0])]
def kd_X10_hunger_7e6f69_0 : List (Nat × sf_D × sf_M) := [(0, ([(1, 10, 0), (0, 0, 0), (0, 0, 0), (0, 0, 0), (8, 0, 0)], [], [], 0, 0), (38, [])),
  (1, ([(1, 10, 0), (0, 0, 0), (0, 0, 0), (0, 0, 0), (8, 0, 0)], [(1, 10, 0)], [], 0, 0), (37, [])),
  (2, ([(1, 10, 0), (0, 0, 0), (0, 0, 0), (0, 0, 0), (8, 0, 0)], [(0, 0, 0), (1, 10, 0)], [(1, 3, 0, -2147483648, 2147483647, 0), (1, 4, 0, -2147483648, 2147483647, 0), (2, 3, 4, 1, 0, 0)], 0, 0), (36, [])),
  (3, ([(1, 10, 0), (0, 0, 0), (0, 0, 0), (0, 0, 0), (8, 0, 0)], [(0, 0, 0), (0, 0, 0), (1, 10, 0)], [(1, 3, 0, -2147483648, 2147483647, 0), (1, 4, 0, -2147483648, 2147483647, 0), (1, 6, 0, -2147483648, 2147483647, 0), (1, 7, 0, -2147483648, 2147483647, 0), (2, 3, 4, 1, 0, 0), (2, 6, 7, 1, 0, 0)], 0, 0), (35, [])),
  (6, ([(1, 10, 0), (0, 0, 0), (0, 0, 0), (0, 0, 0), (8, 0, 0)], [(0, 0, 0)], [(1, 4, 0, -2147483648, 2147483647, 0), (1, 7, 0, -2147483648, 2147483647, 0), (1, 0, 0, 0, 1, 0), (3, 0, 4, 0, 5, 0), (3, 0, 7, 0, 1, 0)], 0, 0), (34, [])),
  (9, ([(1, 10, 0), (0, 0, 0), (0, 0, 0), (0, 0, 0), (8, 0, 0)], [], [(1, 4, 0, 0, 5, 0), (1, 7, 0, 0, 1, 0)], 0, 0), (33, [])),
  (10, ([(1, 10, 0), (0, 0, 0), (0, 0, 0), (0, 0, 0), (8, 0, 0)], [(0, 0, 0)], [(1, 4, 0, 0, 5, 0), (1, 7, 0, 0, 1, 0), (1, 0, 0, -2147483648, 2147483647, 0), (1, 10, 0, -2147483648, 2147483647, 0), (2, 0, 10, 1, 0, 0)], 0, 0), (32, []))]
def kd_X10_hunger_7e6f69_1 : List (Nat × sf_D × sf_M) := [(12, ([(1, 10, 0), (0, 0, 0), (0, 0, 0), (0, 0, 0), (8, 0, 0)], [(0, 0, 0), (0, 0, 0)], [(1, 4, 0, 0, 5, 0), (1, 7, 0, 0, 1, 0), (1, 0, 0, -2147483648, 2147483647, 0), (1, 10, 0, -2147483648, 2147483647, 0), (1, 3, 0, 60, 60, 0), (2, 0, 10, 1, 0, 0)], 0, 0), (31, [])),
  (15, ([(1, 10, 0), (0, 0, 0), (0, 0, 0), (0, 0, 0), (8, 0, 0)], [(0, 0, 0)], [(1, 4, 0, 0, 5, 0), (1, 7, 0, 0, 1, 0), (1, 10, 0, -2147483648, 2147483647, 0), (1, 0, 0, 0, 1, 0), (3, 0, 10, 1, 60, 0)], 0, 0), (30, [])),
  (18, ([(1, 10, 0), (0, 0, 0), (0, 0, 0), (0, 0, 0), (8, 0, 0)], [], [(1, 4, 0, -2147483648, 2147483647, 0), (1, 7, 0, -2147483648, 2147483647, 0)], 0, 0), (1, [])),
  (19, ([(1, 10, 0), (0, 0, 0), (0, 0, 0), (0, 0, 0), (8, 0, 0)], [(0, 0, 0)], [(1, 4, 0, -2147483648, 2147483647, 0), (1, 7, 0, -2147483648, 2147483647, 0), (1, 0, 0, -1, -1, 0)], 0, 0), (0, [])),
  (20, ([(1, 10, 0), (0, 0, 0), (0, 0, 0), (0, 0, 0), (8, 0, 0)], [], [(1, 4, 0, 0, 5, 0), (1, 7, 0, 0, 1, 0), (1, 10, 0, 1, 60, 0)], 0, 0), (29, [])),
  (21, ([(1, 10, 0), (0, 0, 0), (0, 0, 0), (0, 0, 0), (8, 0, 0)], [(0, 0, 0)], [(1, 4, 0, 0, 5, 0), (1, 7, 0, 0, 1, 0), (1, 10, 0, 1, 60, 0), (1, 0, 0, 0, 5, 0), (2, 0, 4, 1, 0, 0)], 0, 0), (28, []))]
def kd_X10_hunger_7e6f69_2 : List (Nat × sf_D × sf_M) := [(22, ([(1, 10, 0), (0, 0, 0), (0, 0, 0), (0, 0, 0), (8, 0, 0)], [(0, 0, 0), (0, 0, 0)], [(1, 4, 0, 0, 5, 0), (1, 7, 0, 0, 1, 0), (1, 10, 0, 1, 60, 0), (1, 0, 0, 0, 5, 0), (1, 3, 0, 0, 1, 0), (2, 0, 4, 1, 0, 0), (2, 3, 7, 1, 0, 0)], 0, 0), (27, [])),
  (25, ([(1, 10, 0), (0, 0, 0), (0, 0, 0), (0, 0, 0), (8, 0, 0)], [(0, 0, 0)], [(1, 4, 0, 0, 5, 0), (1, 7, 0, 0, 1, 0), (1, 10, 0, 1, 60, 0), (1, 0, 0, 0, 11, 0)], 0, 0), (26, [])),
  (27, ([(1, 10, 0), (0, 0, 0), (0, 0, 0), (0, 0, 0), (0, 0, 0)], [], [(1, 4, 0, 0, 5, 0), (1, 7, 0, 0, 1, 0), (1, 10, 0, 1, 60, 0), (1, 13, 0, 0, 11, 0)], 0, 0), (25, [])),
  (28, ([(1, 10, 0), (0, 0, 0), (0, 0, 0), (0, 0, 0), (0, 0, 0)], [(1, 10, 0)], [(1, 4, 0, 0, 5, 0), (1, 7, 0, 0, 1, 0), (1, 10, 0, 1, 60, 0), (1, 13, 0, 0, 11, 0)], 0, 0), (24, [])),
  (31, ([(1, 10, 0), (0, 0, 0), (0, 0, 0), (0, 0, 0), (0, 0, 0)], [(1, 13, 0)], [(1, 4, 0, 0, 5, 0), (1, 7, 0, 0, 1, 0), (1, 10, 0, 1, 60, 0), (1, 13, 0, 0, 11, 0)], 0, 0), (23, [])),
  (32, ([(1, 10, 0), (0, 0, 0), (0, 0, 0), (0, 0, 0), (0, 0, 0)], [(1, 10, 0), (1, 13, 0)], [(1, 4, 0, 0, 5, 0), (1, 7, 0, 0, 1, 0), (1, 10, 0, 1, 60, 0), (1, 13, 0, 0, 11, 0)], 0, 0), (22, []))]
def kd_X10_hunger_7e6f69_3 : List (Nat × sf_D × sf_M) := [(35, ([(1, 10, 0), (0, 0, 0), (0, 0, 0), (0, 0, 0), (0, 0, 0)], [(1, 6, 0), (1, 13, 0)], [(1, 4, 0, 0, 5, 0), (1, 7, 0, 0, 1, 0), (1, 10, 0, 1, 60, 0), (1, 13, 0, 0, 11, 0)], 0, 0), (21, [])),
  (38, ([(1, 10, 0), (0, 0, 0), (0, 0, 0), (0, 0, 0), (0, 0, 0)], [], [(1, 4, 0, 0, 5, 0), (1, 7, 0, 0, 1, 0), (1, 10, 0, 1, 60, 0), (1, 13, 0, 0, 11, 0)], 0, 0), (20, [])),
  (39, ([(1, 10, 0), (0, 0, 0), (0, 0, 0), (0, 0, 0), (0, 0, 0)], [(1, 10, 0)], [(1, 4, 0, 0, 5, 0), (1, 7, 0, 0, 1, 0), (1, 10, 0, 1, 60, 0), (1, 13, 0, 0, 11, 0)], 0, 0), (19, [])),
  (42, ([(1, 10, 0), (0, 0, 0), (0, 0, 0), (0, 0, 0), (0, 0, 0)], [(1, 1, 0)], [(1, 4, 0, 0, 5, 0), (1, 7, 0, 0, 1, 0), (1, 10, 0, 1, 60, 0), (1, 13, 0, 0, 11, 0)], 0, 0), (18, [])),
  (43, ([(1, 10, 0), (0, 0, 0), (0, 0, 0), (0, 0, 0), (0, 0, 0)], [(1, 10, 0), (1, 1, 0)], [(1, 4, 0, 0, 5, 0), (1, 7, 0, 0, 1, 0), (1, 10, 0, 1, 60, 0), (1, 13, 0, 0, 11, 0)], 0, 0), (17, [])),
  (46, ([(1, 10, 0), (0, 0, 0), (0, 0, 0), (0, 0, 0), (0, 0, 0)], [(1, 7, 0), (1, 1, 0)], [(1, 4, 0, 0, 5, 0), (1, 7, 0, 0, 1, 0), (1, 10, 0, 1, 60, 0), (1, 13, 0, 0, 11, 0)], 0, 0), (16, []))]
def kd_X10_hunger_7e6f69_4 : List (Nat × sf_D × sf_M) := [(47, ([(1, 10, 0), (0, 0, 0), (0, 0, 0), (0, 0, 0), (0, 0, 0)], [(1, 10, 0), (1, 7, 0), (1, 1, 0)], [(1, 4, 0, 0, 5, 0), (1, 7, 0, 0, 1, 0), (1, 10, 0, 1, 60, 0), (1, 13, 0, 0, 11, 0)], 0, 0), (15, [])),
  (50, ([(1, 10, 0), (0, 0, 0), (0, 0, 0), (0, 0, 0), (0, 0, 0)], [(1, 13, 0), (1, 7, 0), (1, 1, 0)], [(1, 4, 0, 0, 5, 0), (1, 7, 0, 0, 1, 0), (1, 10, 0, 1, 60, 0), (1, 13, 0, 0, 11, 0)], 0, 0), (14, [])),
  (51, ([(1, 10, 0), (0, 0, 0), (0, 0, 0), (0, 0, 0), (0, 0, 0)], [(0, 0, 0), (1, 13, 0), (1, 7, 0), (1, 1, 0)], [(1, 4, 0, 0, 5, 0), (1, 7, 0, 0, 1, 0), (1, 10, 0, 1, 60, 0), (1, 13, 0, 0, 11, 0), (1, 9, 0, 1, 60, 0), (2, 9, 10, 1, 0, 0)], 0, 0), (13, [])),
  (54, ([(1, 10, 0), (0, 0, 0), (0, 0, 0), (0, 0, 0), (0, 0, 0)], [(0, 0, 0)], [(1, 4, 0, 0, 5, 0), (1, 7, 0, 0, 1, 0), (1, 10, 0, 1, 60, 0), (1, 13, 0, 0, 11, 0), (1, 0, 0, -400, 400, 0)], 0, 0), (12, [])),
  (55, ([(1, 10, 0), (0, 0, 0), (0, 0, 0), (0, 0, 0), (0, 0, 0)], [], [(1, 4, 0, 0, 5, 0), (1, 7, 0, 0, 1, 0), (1, 10, 0, 1, 60, 0), (1, 13, 0, 0, 11, 0)], 0, 0), (11, [])),
  (56, ([(1, 10, 0), (0, 0, 0), (0, 0, 0), (0, 0, 0), (0, 0, 0)], [(1, 10, 0)], [(1, 4, 0, 0, 5, 0), (1, 7, 0, 0, 1, 0), (1, 10, 0, 1, 60, 0), (1, 13, 0, 0, 11, 0)], 0, 0), (10, []))]
def kd_X10_hunger_7e6f69_5 : List (Nat × sf_D × sf_M) := [(59, ([(1, 10, 0), (0, 0, 0), (0, 0, 0), (0, 0, 0), (0, 0, 0)], [(1, 13, 0)], [(1, 4, 0, 0, 5, 0), (1, 7, 0, 0, 1, 0), (1, 10, 0, 1, 60, 0), (1, 13, 0, 0, 11, 0)], 0, 0), (9, [])),
  (62, ([(1, 10, 0), (0, 0, 0), (0, 0, 0), (0, 0, 0), (0, 0, 0)], [(1, 158, 0)], [(1, 4, 0, 0, 5, 0), (1, 7, 0, 0, 1, 0), (1, 10, 0, 1, 60, 0), (1, 13, 0, 0, 11, 0)], 0, 0), (8, [])),
  (64, ([(1, 10, 0), (0, 0, 0), (0, 0, 0), (0, 0, 0), (0, 0, 0)], [(0, 0, 0), (1, 158, 0)], [(1, 4, 0, 0, 5, 0), (1, 7, 0, 0, 1, 0), (1, 10, 0, 1, 60, 0), (1, 13, 0, 0, 11, 0), (1, 3, 0, 0, 11, 0), (2, 3, 13, 1, 0, 0)], 0, 0), (7, [])),
  (65, ([(1, 10, 0), (0, 0, 0), (0, 0, 0), (0, 0, 0), (0, 0, 0)], [(0, 0, 0)], [(1, 4, 0, 0, 5, 0), (1, 7, 0, 0, 1, 0), (1, 10, 0, 1, 60, 0), (1, 13, 0, 0, 11, 0), (1, 0, 0, -2147483648, 2147483647, 0)], 0, 0), (6, [])),
  (66, ([(1, 10, 0), (0, 0, 0), (0, 0, 0), (0, 0, 0), (0, 0, 0)], [(1, 10, 0), (0, 0, 0)], [(1, 4, 0, 0, 5, 0), (1, 7, 0, 0, 1, 0), (1, 10, 0, 1, 60, 0), (1, 13, 0, 0, 11, 0), (1, 0, 0, -2147483648, 2147483647, 0)], 0, 0), (5, []))]
def kd_X10_hunger_7e6f69_6 : List (Nat × sf_D × sf_M) := [(69, ([(1, 10, 0), (0, 0, 0), (0, 0, 0), (0, 0, 0), (0, 0, 0)], [(1, 6, 0), (0, 0, 0)], [(1, 4, 0, 0, 5, 0), (1, 7, 0, 0, 1, 0), (1, 10, 0, 1, 60, 0), (1, 13, 0, 0, 11, 0), (1, 0, 0, -2147483648, 2147483647, 0)], 0, 0), (4, [])),
  (72, ([(1, 10, 0), (0, 0, 0), (0, 0, 0), (0, 0, 0), (0, 0, 0)], [(1, 151, 0), (0, 0, 0)], [(1, 4, 0, 0, 5, 0), (1, 7, 0, 0, 1, 0), (1, 10, 0, 1, 60, 0), (1, 13, 0, 0, 11, 0), (1, 0, 0, -2147483648, 2147483647, 0)], 0, 0), (3, [])),
  (74, ([(1, 10, 0), (0, 0, 0), (0, 0, 0), (0, 0, 0), (0, 0, 0)], [(0, 0, 0), (1, 151, 0), (0, 0, 0)], [(1, 4, 0, 0, 5, 0), (1, 7, 0, 0, 1, 0), (1, 10, 0, 1, 60, 0), (1, 13, 0, 0, 11, 0), (1, 0, 0, -2147483648, 2147483647, 0), (1, 6, 0, 0, 11, 0), (2, 6, 13, 1, 0, 0)], 0, 0), (2, [])),
  (75, ([(1, 10, 0), (0, 0, 0), (0, 0, 0), (0, 0, 0), (0, 0, 0)], [(0, 0, 0), (0, 0, 0)], [(1, 4, 0, 0, 5, 0), (1, 7, 0, 0, 1, 0), (1, 10, 0, 1, 60, 0), (1, 13, 0, 0, 11, 0), (1, 0, 0, -2147483648, 2147483647, 0), (1, 3, 0, -2147483648, 2147483647, 0)], 0, 0), (1, [])),
  (76, ([(1, 10, 0), (0, 0, 0), (0, 0, 0), (0, 0, 0), (0, 0, 0)], [(0, 0, 0)], [(1, 4, 0, 0, 5, 0), (1, 7, 0, 0, 1, 0), (1, 10, 0, 1, 60, 0), (1, 13, 0, 0, 11, 0), (1, 0, 0, -2147483648, 2147483647, 0)], 0, 0), (0, []))]
def kd_X10_hunger_7e6f69 : List (Nat × sf_D × sf_M) := kd_X10_hunger_7e6f69_0 ++ (kd_X10_hunger_7e6f69_1 ++ (kd_X10_hunger_7e6f69_2 ++ (kd_X10_hunger_7e6f69_3 ++ (kd_X10_hunger_7e6f69_4 ++ (kd_X10_hunger_7e6f69_5 ++ (kd_X10_hunger_7e6f69_6))))))
set_option maxRecDepth 100000 in
theorem kt_X10_hunger_7e6f69 : sf_chk [kq_X10_isSlot_57b5ea, kq_X10_isWithin_0d71f4, kq_X10_slotOf_2f4f15, kq_X6_copyFrom_80a60b, kq_X1_passDays_13] kq_X10_hunger_7e6f69 5 kc_X10_hunger_7e6f69 kd_X10_hunger_7e6f69 = true := by decide +kernel
set_option maxRecDepth 100000 in
theorem kl_X10_hunger_7e6f69 : (kc_X10_hunger_7e6f69).map (fun c => (c.1, sf_den ([Z_X10_isSlot, Z_X10_isWithin, Z_X10_slotOf, Z_X6_copyFrom, Z_X1_passDays] : List sf_X) c.2)) = L_X10_hunger Z_X10_isSlot Z_X10_isWithin Z_X10_slotOf Z_X6_copyFrom Z_X1_passDays := rfl
theorem ct_X10_hunger_7e6f69 : sf_ct kq_X10_hunger_7e6f69 Z_X10_hunger := by
  have h := sf_meth (K := [kq_X10_isSlot_57b5ea, kq_X10_isWithin_0d71f4, kq_X10_slotOf_2f4f15, kq_X6_copyFrom_80a60b, kq_X1_passDays_13]) (E := [Z_X10_isSlot, Z_X10_isWithin, Z_X10_slotOf, Z_X6_copyFrom, Z_X1_passDays]) (k := kq_X10_hunger_7e6f69) (nL := 5) (C := kc_X10_hunger_7e6f69) (D := kd_X10_hunger_7e6f69) (fun m k hk => match m, hk with
    | 0, hk => (Option.some.inj hk) ▸ ct_X10_isSlot_57b5ea
    | 1, hk => (Option.some.inj hk) ▸ ct_X10_isWithin_0d71f4
    | 2, hk => (Option.some.inj hk) ▸ ct_X10_slotOf_2f4f15
    | 3, hk => (Option.some.inj hk) ▸ ct_X6_copyFrom_80a60b
    | 4, hk => (Option.some.inj hk) ▸ ct_X1_passDays_13
    | _ + 5, hk => (by cases hk)) kt_X10_hunger_7e6f69
  rw [kl_X10_hunger_7e6f69] at h
  exact h
def kq_X10_movePrices_4c18a7 : sf_Q := ([(1, 10, 0)], [], some (0, 0, 0), [(1, 0, 0, 0, 1, 0)], [(128, 0, 11)])
def kc_X10_movePrices_4c18a7 : List (Nat × sf_I) := [(0, 0, [1, 0]),
  (1, 5, [2, 1]),
  (2, 0, [3, 0]),
  (3, 5, [4, 2]),
  (4, 2, [5, 2]),
  (5, 0, [6, 2]),
  (6, 4, [7, 0]),
  (7, 23, [10, 10, 13]),
  (10, 23, [13, 7, 8]),
  (13, 9, [14, 2]),
  (14, 21, [17, 95, 5]),
  (17, 4, [18, 0]),
  (18, 23, [21, 10, 13]),
  (21, 0, [22, 1]),
  (22, 2, [23, 2]),
  (23, 32, [26, 0, 3, 7, 0, 0, 0, 0]),
  (26, 5, [27, 3]),
  (27, 4, [28, 0]),
  (28, 23, [31, 10, 5]),
  (31, 23, [34, 6, 0]),
  (34, 2, [35, 2]),
  (35, 25, [36, 1]),
  (36, 2, [37, 3]),
  (37, 21, [40, 55, 5]),
  (40, 4, [41, 0]),
  (41, 23, [44, 10, 10]),
  (44, 2, [45, 2]),
  (45, 18, [46]),
  (46, 25, [47, 1]),
  (47, 0, [48, 1]),
  (48, 9, [49, 0]),
  (49, 28, [50, 1]),
  (50, 0, [51, 1]),
  (51, 5, [52, 1]),
  (52, 22, [89]),
  (55, 4, [56, 0]),
  (56, 23, [59, 10, 5]),
  (59, 23, [62, 6, 0]),
  (62, 2, [63, 2]),
  (63, 25, [64, 1]),
  (64, 2, [65, 3]),
  (65, 21, [68, 89, 3]),
  (68, 4, [69, 0]),
  (69, 23, [72, 10, 10]),
  (72, 2, [73, 2]),
  (73, 25, [74, 1]),
  (74, 20, [77, 89, 3]),
  (77, 4, [78, 0]),
  (78, 23, [81, 10, 10]),
  (81, 2, [82, 2]),
  (82, 18, [83]),
  (83, 25, [84, 1]),
  (84, 0, [85, 1]),
  (85, 9, [86, 1]),
  (86, 28, [87, 1]),
  (87, 0, [88, 1]),
  (88, 5, [89, 1]),
  (89, 8, [92, 2, 1]),
  (92, 22, [4]),
  (95, 2, [96, 1]),
  (96, 36, [0, 0])]
def kd_X10_movePrices_4c18a7_0 : List (Nat × sf_D × sf_M) := [(0, ([(1, 10, 0), (8, 0, 0), (8, 0, 0), (8, 0, 0)], [], [], 0, 0), (730, [])),
  (1, ([(1, 10, 0), (8, 0, 0), (8, 0, 0), (8, 0, 0)], [(0, 0, 0)], [(1, 0, 0, 0, 0, 0)], 0, 0), (729, [])),
  (2, ([(1, 10, 0), (0, 0, 0), (8, 0, 0), (8, 0, 0)], [], [(1, 4, 0, 0, 0, 0)], 0, 0), (728, [])),
  (3, ([(1, 10, 0), (0, 0, 0), (8, 0, 0), (8, 0, 0)], [(0, 0, 0)], [(1, 4, 0, 0, 0, 0), (1, 0, 0, 0, 0, 0)], 0, 0), (727, [])),
  (4, ([(1, 10, 0), (0, 0, 0), (0, 0, 0), (8, 0, 0)], [], [(1, 4, 0, 0, 1, 0), (1, 7, 0, 0, 12, 0)], 0, 0), (42, [(57, 7, 12, 0)])),
  (5, ([(1, 10, 0), (0, 0, 0), (0, 0, 0), (8, 0, 0)], [(0, 0, 0)], [(1, 4, 0, 0, 1, 0), (1, 7, 0, 0, 12, 0), (1, 0, 0, 0, 12, 0), (2, 0, 7, 1, 0, 0)], 0, 0), (41, [(57, 7, 12, 0)])),
  (6, ([(1, 10, 0), (0, 0, 0), (0, 0, 0), (8, 0, 0)], [(0, 0, 0), (0, 0, 0)], [(1, 4, 0, 0, 1, 0), (1, 7, 0, 0, 12, 0), (1, 0, 0, 0, 12, 0), (1, 3, 0, 2, 2, 0), (2, 0, 7, 1, 0, 0)], 0, 0), (40, [(57, 7, 12, 0)])),
  (7, ([(1, 10, 0), (0, 0, 0), (0, 0, 0), (8, 0, 0)], [(1, 10, 0), (0, 0, 0), (0, 0, 0)], [(1, 4, 0, 0, 1, 0), (1, 7, 0, 0, 12, 0), (1, 0, 0, 0, 12, 0), (1, 3, 0, 2, 2, 0), (2, 0, 7, 1, 0, 0)], 0, 0), (39, [(57, 7, 12, 0)]))]
def kd_X10_movePrices_4c18a7_1 : List (Nat × sf_D × sf_M) := [(10, ([(1, 10, 0), (0, 0, 0), (0, 0, 0), (8, 0, 0)], [(1, 7, 0), (0, 0, 0), (0, 0, 0)], [(1, 4, 0, 0, 1, 0), (1, 7, 0, 0, 12, 0), (1, 0, 0, 0, 12, 0), (1, 3, 0, 2, 2, 0), (2, 0, 7, 1, 0, 0)], 0, 0), (38, [(57, 7, 12, 0)])),
  (13, ([(1, 10, 0), (0, 0, 0), (0, 0, 0), (8, 0, 0)], [(0, 0, 6), (0, 0, 0), (0, 0, 0)], [(1, 4, 0, 0, 1, 0), (1, 7, 0, 0, 12, 0), (1, 0, 0, 0, 12, 0), (1, 3, 0, 2, 2, 0), (1, 6, 0, 0, 6, 0), (2, 0, 7, 1, 0, 0)], 0, 0), (37, [(57, 7, 12, 0)])),
  (14, ([(1, 10, 0), (0, 0, 0), (0, 0, 0), (8, 0, 0)], [(0, 0, 0), (0, 0, 0)], [(1, 4, 0, 0, 1, 0), (1, 7, 0, 0, 12, 0), (1, 0, 0, 0, 12, 0), (1, 3, 0, 0, 12, 0), (2, 0, 7, 1, 0, 0)], 0, 0), (36, [(57, 7, 12, 0)])),
  (17, ([(1, 10, 0), (0, 0, 0), (0, 0, 0), (8, 0, 0)], [], [(1, 4, 0, 0, 1, 0), (1, 7, 0, 0, 11, 0)], 0, 0), (35, [(57, 7, 12, 0)])),
  (18, ([(1, 10, 0), (0, 0, 0), (0, 0, 0), (8, 0, 0)], [(1, 10, 0)], [(1, 4, 0, 0, 1, 0), (1, 7, 0, 0, 11, 0)], 0, 0), (34, [(57, 7, 12, 0)])),
  (21, ([(1, 10, 0), (0, 0, 0), (0, 0, 0), (8, 0, 0)], [(1, 7, 0)], [(1, 4, 0, 0, 1, 0), (1, 7, 0, 0, 11, 0)], 0, 0), (33, [(57, 7, 12, 0)])),
  (22, ([(1, 10, 0), (0, 0, 0), (0, 0, 0), (8, 0, 0)], [(0, 0, 0), (1, 7, 0)], [(1, 4, 0, 0, 1, 0), (1, 7, 0, 0, 11, 0), (1, 3, 0, 1, 1, 0)], 0, 0), (32, [(57, 7, 12, 0)]))]
def kd_X10_movePrices_4c18a7_2 : List (Nat × sf_D × sf_M) := [(23, ([(1, 10, 0), (0, 0, 0), (0, 0, 0), (8, 0, 0)], [(0, 0, 0), (0, 0, 0), (1, 7, 0)], [(1, 4, 0, 0, 1, 0), (1, 7, 0, 0, 11, 0), (1, 3, 0, 1, 1, 0), (1, 6, 0, 0, 11, 0), (2, 6, 7, 1, 0, 0)], 0, 0), (31, [(57, 7, 12, 0)])),
  (26, ([(1, 10, 0), (0, 0, 0), (0, 0, 0), (8, 0, 0)], [(0, 0, 0)], [(1, 4, 0, 0, 1, 0), (1, 7, 0, 0, 11, 0), (1, 0, 0, 0, 250, 0)], 0, 0), (30, [(57, 7, 12, 0)])),
  (27, ([(1, 10, 0), (0, 0, 0), (0, 0, 0), (0, 0, 0)], [], [(1, 4, 0, 0, 1, 0), (1, 7, 0, 0, 11, 0), (1, 10, 0, 0, 250, 0)], 0, 0), (29, [(57, 7, 12, 0)])),
  (28, ([(1, 10, 0), (0, 0, 0), (0, 0, 0), (0, 0, 0)], [(1, 10, 0)], [(1, 4, 0, 0, 1, 0), (1, 7, 0, 0, 11, 0), (1, 10, 0, 0, 250, 0)], 0, 0), (28, [(57, 7, 12, 0)])),
  (31, ([(1, 10, 0), (0, 0, 0), (0, 0, 0), (0, 0, 0)], [(1, 13, 0)], [(1, 4, 0, 0, 1, 0), (1, 7, 0, 0, 11, 0), (1, 10, 0, 0, 250, 0)], 0, 0), (27, [(57, 7, 12, 0)])),
  (34, ([(1, 10, 0), (0, 0, 0), (0, 0, 0), (0, 0, 0)], [(1, 156, 0)], [(1, 4, 0, 0, 1, 0), (1, 7, 0, 0, 11, 0), (1, 10, 0, 0, 250, 0)], 0, 0), (26, [(57, 7, 12, 0)])),
  (35, ([(1, 10, 0), (0, 0, 0), (0, 0, 0), (0, 0, 0)], [(0, 0, 0), (1, 156, 0)], [(1, 4, 0, 0, 1, 0), (1, 7, 0, 0, 11, 0), (1, 10, 0, 0, 250, 0), (1, 3, 0, 0, 11, 0), (2, 3, 7, 1, 0, 0)], 0, 0), (25, [(57, 7, 12, 0)]))]
def kd_X10_movePrices_4c18a7_3 : List (Nat × sf_D × sf_M) := [(36, ([(1, 10, 0), (0, 0, 0), (0, 0, 0), (0, 0, 0)], [(0, 0, 0)], [(1, 4, 0, 0, 1, 0), (1, 7, 0, 0, 11, 0), (1, 10, 0, 0, 250, 0), (1, 0, 0, 0, 999, 0)], 0, 0), (24, [(57, 7, 12, 0)])),
  (37, ([(1, 10, 0), (0, 0, 0), (0, 0, 0), (0, 0, 0)], [(0, 0, 0), (0, 0, 0)], [(1, 4, 0, 0, 1, 0), (1, 7, 0, 0, 11, 0), (1, 10, 0, 0, 250, 0), (1, 0, 0, 0, 999, 0), (1, 3, 0, 0, 250, 0), (2, 3, 10, 1, 0, 0)], 0, 0), (23, [(57, 7, 12, 0)])),
  (40, ([(1, 10, 0), (0, 0, 0), (0, 0, 0), (0, 0, 0)], [], [(1, 4, 0, 0, 1, 0), (1, 7, 0, 0, 11, 0), (1, 10, 0, 1, 250, 0)], 0, 0), (11, [(57, 7, 12, 0)])),
  (41, ([(1, 10, 0), (0, 0, 0), (0, 0, 0), (0, 0, 0)], [(1, 10, 0)], [(1, 4, 0, 0, 1, 0), (1, 7, 0, 0, 11, 0), (1, 10, 0, 1, 250, 0)], 0, 0), (10, [(57, 7, 12, 0)])),
  (44, ([(1, 10, 0), (0, 0, 0), (0, 0, 0), (0, 0, 0)], [(1, 128, 0)], [(1, 4, 0, 0, 1, 0), (1, 7, 0, 0, 11, 0), (1, 10, 0, 1, 250, 0)], 0, 0), (9, [(57, 7, 12, 0)])),
  (45, ([(1, 10, 0), (0, 0, 0), (0, 0, 0), (0, 0, 0)], [(0, 0, 0), (1, 128, 0)], [(1, 4, 0, 0, 1, 0), (1, 7, 0, 0, 11, 0), (1, 10, 0, 1, 250, 0), (1, 3, 0, 0, 11, 0), (2, 3, 7, 1, 0, 0)], 0, 0), (8, [(57, 7, 12, 0)]))]
def kd_X10_movePrices_4c18a7_4 : List (Nat × sf_D × sf_M) := [(46, ([(1, 10, 0), (0, 0, 0), (0, 0, 0), (0, 0, 0)], [(0, 0, 0), (1, 128, 0), (0, 0, 0), (1, 128, 0)], [(1, 4, 0, 0, 1, 0), (1, 7, 0, 0, 11, 0), (1, 10, 0, 1, 250, 0), (1, 3, 0, 0, 11, 0), (1, 9, 0, 0, 11, 0), (2, 3, 7, 1, 0, 0), (2, 9, 3, 1, 0, 0)], 0, 0), (7, [(57, 7, 12, 0)])),
  (47, ([(1, 10, 0), (0, 0, 0), (0, 0, 0), (0, 0, 0)], [(0, 0, 0), (0, 0, 0), (1, 128, 0)], [(1, 4, 0, 0, 1, 0), (1, 7, 0, 0, 11, 0), (1, 10, 0, 1, 250, 0), (1, 3, 0, 0, 11, 0), (1, 6, 0, -2147483648, 2147483647, 0), (2, 3, 7, 1, 0, 0)], 0, 0), (6, [(57, 7, 12, 0)])),
  (48, ([(1, 10, 0), (0, 0, 0), (0, 0, 0), (0, 0, 0)], [(0, 0, 0), (0, 0, 0), (0, 0, 0), (1, 128, 0)], [(1, 4, 0, 0, 1, 0), (1, 7, 0, 0, 11, 0), (1, 10, 0, 1, 250, 0), (1, 3, 0, 0, 11, 0), (1, 6, 0, -2147483648, 2147483647, 0), (1, 9, 0, 1, 1, 0), (2, 3, 7, 1, 0, 0)], 0, 0), (5, [(57, 7, 12, 0)])),
  (49, ([(1, 10, 0), (0, 0, 0), (0, 0, 0), (0, 0, 0)], [(0, 0, 0), (0, 0, 0), (1, 128, 0)], [(1, 4, 0, 0, 1, 0), (1, 7, 0, 0, 11, 0), (1, 10, 0, 1, 250, 0), (1, 3, 0, 0, 11, 0), (1, 6, 0, -2147483648, 2147483647, 0), (2, 3, 7, 1, 0, 0)], 0, 0), (4, [(57, 7, 12, 0)])),
  (50, ([(1, 10, 0), (0, 0, 0), (0, 0, 0), (0, 0, 0)], [], [(1, 4, 0, 0, 1, 0), (1, 7, 0, 0, 11, 0), (1, 10, 0, 1, 250, 0)], 0, 0), (3, [(57, 7, 12, 0)]))]
def kd_X10_movePrices_4c18a7_5 : List (Nat × sf_D × sf_M) := [(51, ([(1, 10, 0), (0, 0, 0), (0, 0, 0), (0, 0, 0)], [(0, 0, 0)], [(1, 4, 0, 0, 1, 0), (1, 7, 0, 0, 11, 0), (1, 10, 0, 1, 250, 0), (1, 0, 0, 1, 1, 0)], 0, 0), (2, [(57, 7, 12, 0)])),
  (52, ([(1, 10, 0), (0, 0, 0), (0, 0, 0), (0, 0, 0)], [], [(1, 7, 0, 0, 11, 0), (1, 10, 0, 1, 250, 0), (1, 4, 0, 1, 1, 0)], 0, 0), (1, [(57, 7, 12, 0)])),
  (55, ([(1, 10, 0), (0, 0, 0), (0, 0, 0), (0, 0, 0)], [], [(1, 4, 0, 0, 1, 0), (1, 7, 0, 0, 11, 0), (1, 10, 0, 0, 250, 0)], 0, 0), (22, [(57, 7, 12, 0)])),
  (56, ([(1, 10, 0), (0, 0, 0), (0, 0, 0), (0, 0, 0)], [(1, 10, 0)], [(1, 4, 0, 0, 1, 0), (1, 7, 0, 0, 11, 0), (1, 10, 0, 0, 250, 0)], 0, 0), (21, [(57, 7, 12, 0)])),
  (59, ([(1, 10, 0), (0, 0, 0), (0, 0, 0), (0, 0, 0)], [(1, 13, 0)], [(1, 4, 0, 0, 1, 0), (1, 7, 0, 0, 11, 0), (1, 10, 0, 0, 250, 0)], 0, 0), (20, [(57, 7, 12, 0)])),
  (62, ([(1, 10, 0), (0, 0, 0), (0, 0, 0), (0, 0, 0)], [(1, 156, 0)], [(1, 4, 0, 0, 1, 0), (1, 7, 0, 0, 11, 0), (1, 10, 0, 0, 250, 0)], 0, 0), (19, [(57, 7, 12, 0)])),
  (63, ([(1, 10, 0), (0, 0, 0), (0, 0, 0), (0, 0, 0)], [(0, 0, 0), (1, 156, 0)], [(1, 4, 0, 0, 1, 0), (1, 7, 0, 0, 11, 0), (1, 10, 0, 0, 250, 0), (1, 3, 0, 0, 11, 0), (2, 3, 7, 1, 0, 0)], 0, 0), (18, [(57, 7, 12, 0)]))]
def kd_X10_movePrices_4c18a7_6 : List (Nat × sf_D × sf_M) := [(64, ([(1, 10, 0), (0, 0, 0), (0, 0, 0), (0, 0, 0)], [(0, 0, 0)], [(1, 4, 0, 0, 1, 0), (1, 7, 0, 0, 11, 0), (1, 10, 0, 0, 250, 0), (1, 0, 0, 0, 999, 0)], 0, 0), (17, [(57, 7, 12, 0)])),
  (65, ([(1, 10, 0), (0, 0, 0), (0, 0, 0), (0, 0, 0)], [(0, 0, 0), (0, 0, 0)], [(1, 4, 0, 0, 1, 0), (1, 7, 0, 0, 11, 0), (1, 10, 0, 0, 250, 0), (1, 0, 0, 0, 999, 0), (1, 3, 0, 0, 250, 0), (2, 3, 10, 1, 0, 0)], 0, 0), (16, [(57, 7, 12, 0)])),
  (68, ([(1, 10, 0), (0, 0, 0), (0, 0, 0), (0, 0, 0)], [], [(1, 4, 0, 0, 1, 0), (1, 7, 0, 0, 11, 0), (1, 10, 0, 0, 250, 0)], 0, 0), (15, [(57, 7, 12, 0)])),
  (69, ([(1, 10, 0), (0, 0, 0), (0, 0, 0), (0, 0, 0)], [(1, 10, 0)], [(1, 4, 0, 0, 1, 0), (1, 7, 0, 0, 11, 0), (1, 10, 0, 0, 250, 0)], 0, 0), (14, [(57, 7, 12, 0)])),
  (72, ([(1, 10, 0), (0, 0, 0), (0, 0, 0), (0, 0, 0)], [(1, 128, 0)], [(1, 4, 0, 0, 1, 0), (1, 7, 0, 0, 11, 0), (1, 10, 0, 0, 250, 0)], 0, 0), (13, [(57, 7, 12, 0)])),
  (73, ([(1, 10, 0), (0, 0, 0), (0, 0, 0), (0, 0, 0)], [(0, 0, 0), (1, 128, 0)], [(1, 4, 0, 0, 1, 0), (1, 7, 0, 0, 11, 0), (1, 10, 0, 0, 250, 0), (1, 3, 0, 0, 11, 0), (2, 3, 7, 1, 0, 0)], 0, 0), (12, [(57, 7, 12, 0)]))]
def kd_X10_movePrices_4c18a7_7 : List (Nat × sf_D × sf_M) := [(74, ([(1, 10, 0), (0, 0, 0), (0, 0, 0), (0, 0, 0)], [(0, 0, 0)], [(1, 4, 0, 0, 1, 0), (1, 7, 0, 0, 11, 0), (1, 10, 0, 0, 250, 0), (1, 0, 0, -2147483648, 2147483647, 0)], 0, 0), (11, [(57, 7, 12, 0)])),
  (77, ([(1, 10, 0), (0, 0, 0), (0, 0, 0), (0, 0, 0)], [], [(1, 4, 0, 0, 1, 0), (1, 7, 0, 0, 11, 0), (1, 10, 0, 0, 250, 0)], 0, 0), (10, [(57, 7, 12, 0)])),
  (78, ([(1, 10, 0), (0, 0, 0), (0, 0, 0), (0, 0, 0)], [(1, 10, 0)], [(1, 4, 0, 0, 1, 0), (1, 7, 0, 0, 11, 0), (1, 10, 0, 0, 250, 0)], 0, 0), (9, [(57, 7, 12, 0)])),
  (81, ([(1, 10, 0), (0, 0, 0), (0, 0, 0), (0, 0, 0)], [(1, 128, 0)], [(1, 4, 0, 0, 1, 0), (1, 7, 0, 0, 11, 0), (1, 10, 0, 0, 250, 0)], 0, 0), (8, [(57, 7, 12, 0)])),
  (82, ([(1, 10, 0), (0, 0, 0), (0, 0, 0), (0, 0, 0)], [(0, 0, 0), (1, 128, 0)], [(1, 4, 0, 0, 1, 0), (1, 7, 0, 0, 11, 0), (1, 10, 0, 0, 250, 0), (1, 3, 0, 0, 11, 0), (2, 3, 7, 1, 0, 0)], 0, 0), (7, [(57, 7, 12, 0)])),
  (83, ([(1, 10, 0), (0, 0, 0), (0, 0, 0), (0, 0, 0)], [(0, 0, 0), (1, 128, 0), (0, 0, 0), (1, 128, 0)], [(1, 4, 0, 0, 1, 0), (1, 7, 0, 0, 11, 0), (1, 10, 0, 0, 250, 0), (1, 3, 0, 0, 11, 0), (1, 9, 0, 0, 11, 0), (2, 3, 7, 1, 0, 0), (2, 9, 3, 1, 0, 0)], 0, 0), (6, [(57, 7, 12, 0)]))]
def kd_X10_movePrices_4c18a7_8 : List (Nat × sf_D × sf_M) := [(84, ([(1, 10, 0), (0, 0, 0), (0, 0, 0), (0, 0, 0)], [(0, 0, 0), (0, 0, 0), (1, 128, 0)], [(1, 4, 0, 0, 1, 0), (1, 7, 0, 0, 11, 0), (1, 10, 0, 0, 250, 0), (1, 3, 0, 0, 11, 0), (1, 6, 0, -2147483648, 2147483647, 0), (2, 3, 7, 1, 0, 0)], 0, 0), (5, [(57, 7, 12, 0)])),
  (85, ([(1, 10, 0), (0, 0, 0), (0, 0, 0), (0, 0, 0)], [(0, 0, 0), (0, 0, 0), (0, 0, 0), (1, 128, 0)], [(1, 4, 0, 0, 1, 0), (1, 7, 0, 0, 11, 0), (1, 10, 0, 0, 250, 0), (1, 3, 0, 0, 11, 0), (1, 6, 0, -2147483648, 2147483647, 0), (1, 9, 0, 1, 1, 0), (2, 3, 7, 1, 0, 0)], 0, 0), (4, [(57, 7, 12, 0)])),
  (86, ([(1, 10, 0), (0, 0, 0), (0, 0, 0), (0, 0, 0)], [(0, 0, 0), (0, 0, 0), (1, 128, 0)], [(1, 4, 0, 0, 1, 0), (1, 7, 0, 0, 11, 0), (1, 10, 0, 0, 250, 0), (1, 3, 0, 0, 11, 0), (1, 6, 0, -2147483648, 2147483647, 0), (2, 3, 7, 1, 0, 0)], 0, 0), (3, [(57, 7, 12, 0)])),
  (87, ([(1, 10, 0), (0, 0, 0), (0, 0, 0), (0, 0, 0)], [], [(1, 4, 0, 0, 1, 0), (1, 7, 0, 0, 11, 0), (1, 10, 0, 0, 250, 0)], 0, 0), (2, [(57, 7, 12, 0)])),
  (88, ([(1, 10, 0), (0, 0, 0), (0, 0, 0), (0, 0, 0)], [(0, 0, 0)], [(1, 4, 0, 0, 1, 0), (1, 7, 0, 0, 11, 0), (1, 10, 0, 0, 250, 0), (1, 0, 0, 1, 1, 0)], 0, 0), (1, [(57, 7, 12, 0)]))]
def kd_X10_movePrices_4c18a7_9 : List (Nat × sf_D × sf_M) := [(89, ([(1, 10, 0), (0, 0, 0), (0, 0, 0), (0, 0, 0)], [], [(1, 7, 0, 0, 11, 0), (1, 10, 0, 0, 250, 0), (1, 4, 0, 0, 1, 0)], 0, 0), (0, [(57, 7, 12, 0)])),
  (92, ([(1, 10, 0), (0, 0, 0), (0, 0, 0), (0, 0, 0)], [], [(1, 10, 0, 0, 250, 0), (1, 4, 0, 0, 1, 0), (1, 7, 0, 1, 12, 0)], 0, 0), (43, [(57, 7, 12, 0)])),
  (95, ([(1, 10, 0), (0, 0, 0), (0, 0, 0), (8, 0, 0)], [], [(1, 4, 0, 0, 1, 0), (1, 7, 0, 0, 12, 0)], 0, 0), (1, [])),
  (96, ([(1, 10, 0), (0, 0, 0), (0, 0, 0), (8, 0, 0)], [(0, 0, 0)], [(1, 4, 0, 0, 1, 0), (1, 7, 0, 0, 12, 0), (1, 0, 0, 0, 1, 0), (2, 0, 4, 1, 0, 0)], 0, 0), (0, []))]
def kd_X10_movePrices_4c18a7 : List (Nat × sf_D × sf_M) := kd_X10_movePrices_4c18a7_0 ++ (kd_X10_movePrices_4c18a7_1 ++ (kd_X10_movePrices_4c18a7_2 ++ (kd_X10_movePrices_4c18a7_3 ++ (kd_X10_movePrices_4c18a7_4 ++ (kd_X10_movePrices_4c18a7_5 ++ (kd_X10_movePrices_4c18a7_6 ++ (kd_X10_movePrices_4c18a7_7 ++ (kd_X10_movePrices_4c18a7_8 ++ (kd_X10_movePrices_4c18a7_9)))))))))
set_option maxRecDepth 100000 in
theorem kt_X10_movePrices_4c18a7 : sf_chk [kq_X7_amountOf_f49f7d] kq_X10_movePrices_4c18a7 4 kc_X10_movePrices_4c18a7 kd_X10_movePrices_4c18a7 = true := by decide +kernel
set_option maxRecDepth 100000 in
theorem kl_X10_movePrices_4c18a7 : (kc_X10_movePrices_4c18a7).map (fun c => (c.1, sf_den ([Z_X7_amountOf] : List sf_X) c.2)) = L_X10_movePrices Z_X7_amountOf := rfl
theorem ct_X10_movePrices_4c18a7 : sf_ct kq_X10_movePrices_4c18a7 Z_X10_movePrices := by
  have h := sf_meth (K := [kq_X7_amountOf_f49f7d]) (E := [Z_X7_amountOf]) (k := kq_X10_movePrices_4c18a7) (nL := 4) (C := kc_X10_movePrices_4c18a7) (D := kd_X10_movePrices_4c18a7) (fun m k hk => match m, hk with
    | 0, hk => (Option.some.inj hk) ▸ ct_X7_amountOf_f49f7d
    | _ + 1, hk => (by cases hk)) kt_X10_movePrices_4c18a7
  rw [kl_X10_movePrices_4c18a7] at h
  exact h
def kq_X10_prices_4c18a7 : sf_Q := ([(1, 10, 0)], [], some (0, 0, 0), [(1, 0, 0, 1, 60, 0)], [(1, 2, 3), (10, 17, 17), (13, 7, 9), (100, 0, 5), (101, 0, 5), (128, 0, 11), (156, 0, 11), (157, 0, 11), (158, 0, 11), (159, 0, 11), (160, 0, 7), (161, 0, 7), (162, 0, 63)])
def kc_X10_prices_4c18a7 : List (Nat × sf_I) := [(0, 4, [1, 0]),
  (1, 23, [4, 10, 5]),
  (4, 4, [5, 0]),
  (5, 23, [8, 10, 4]),
  (8, 32, [11, 0, 2, 6, 0, 0, 0, 0]),
  (11, 4, [12, 0]),
  (12, 4, [13, 0]),
  (13, 23, [16, 10, 13]),
  (16, 23, [19, 7, 8]),
  (19, 24, [22, 10, 17, 0]),
  (22, 0, [23, 0]),
  (23, 5, [24, 1]),
  (24, 2, [25, 1]),
  (25, 0, [27, 12]),
  (27, 21, [30, 43, 5]),
  (30, 4, [31, 0]),
  (31, 23, [34, 10, 10]),
  (34, 2, [35, 1]),
  (35, 0, [36, 5]),
  (36, 28, [37, 1]),
  (37, 8, [40, 1, 1]),
  (40, 22, [24]),
  (43, 0, [44, 1]),
  (44, 5, [45, 1]),
  (45, 2, [46, 1]),
  (46, 0, [48, 60]),
  (48, 21, [51, 83, 5]),
  (51, 4, [52, 0]),
  (52, 32, [55, 1, 1, 10, 0, 0, 0, 0]),
  (55, 20, [58, 60, 1]),
  (58, 2, [59, 1]),
  (59, 35, [0, 0]),
  (60, 4, [61, 0]),
  (61, 23, [64, 10, 2]),
  (64, 4, [65, 0]),
  (65, 23, [68, 10, 13]),
  (68, 4, [69, 0]),
  (69, 23, [72, 10, 5]),
  (72, 0, [73, 1]),
  (73, 32, [76, 2, 4, 1, 0, 0, 0, 0]),
  (76, 19, [77]),
  (77, 8, [80, 1, 1]),
  (80, 22, [45]),
  (83, 4, [84, 0]),
  (84, 32, [87, 1, 1, 10, 0, 0, 0, 0]),
  (87, 19, [88]),
  (88, 0, [90, 60]),
  (90, 35, [0, 0])]
def kd_X10_prices_4c18a7_0 : List (Nat × sf_D × sf_M) := [(0, ([(1, 10, 0), (8, 0, 0)], [], [], 0, 0), (1297, [])),
  (1, ([(1, 10, 0), (8, 0, 0)], [(1, 10, 0)], [], 0, 0), (1296, [])),
  (4, ([(1, 10, 0), (8, 0, 0)], [(1, 13, 0)], [], 0, 0), (1295, [])),
  (5, ([(1, 10, 0), (8, 0, 0)], [(1, 10, 0), (1, 13, 0)], [], 0, 0), (1294, [])),
  (8, ([(1, 10, 0), (8, 0, 0)], [(1, 6, 0), (1, 13, 0)], [], 0, 0), (1293, [])),
  (11, ([(1, 10, 0), (8, 0, 0)], [], [], 0, 0), (1292, [])),
  (12, ([(1, 10, 0), (8, 0, 0)], [(1, 10, 0)], [], 0, 0), (1291, [])),
  (13, ([(1, 10, 0), (8, 0, 0)], [(1, 10, 0), (1, 10, 0)], [], 0, 0), (1290, [])),
  (16, ([(1, 10, 0), (8, 0, 0)], [(1, 7, 0), (1, 10, 0)], [], 0, 0), (1289, [])),
  (19, ([(1, 10, 0), (8, 0, 0)], [(0, 0, 6), (1, 10, 0)], [(1, 3, 0, 0, 6, 0)], 0, 0), (1288, [])),
  (22, ([(1, 10, 0), (8, 0, 0)], [], [(1, 33053, 0, 0, 6, 0)], 0, 0), (1287, [])),
  (23, ([(1, 10, 0), (8, 0, 0)], [(0, 0, 0)], [(1, 33053, 0, 0, 6, 0), (1, 0, 0, 0, 0, 0)], 0, 0), (1286, [])),
  (24, ([(1, 10, 0), (0, 0, 0)], [], [(1, 33053, 0, 0, 6, 0), (1, 4, 0, 0, 12, 0)], 0, 0), (1141, [(12, 4, 12, 0)])),
  (25, ([(1, 10, 0), (0, 0, 0)], [(0, 0, 0)], [(1, 33053, 0, 0, 6, 0), (1, 4, 0, 0, 12, 0), (1, 0, 0, 0, 12, 0), (2, 0, 4, 1, 0, 0)], 0, 0), (1140, [(12, 4, 12, 0)])),
  (27, ([(1, 10, 0), (0, 0, 0)], [(0, 0, 0), (0, 0, 0)], [(1, 33053, 0, 0, 6, 0), (1, 4, 0, 0, 12, 0), (1, 0, 0, 0, 12, 0), (1, 3, 0, 12, 12, 0), (2, 0, 4, 1, 0, 0)], 0, 0), (1139, [(12, 4, 12, 0)])),
  (30, ([(1, 10, 0), (0, 0, 0)], [], [(1, 33053, 0, 0, 6, 0), (1, 4, 0, 0, 11, 0)], 0, 0), (1136, [(12, 4, 12, 0)])),
  (31, ([(1, 10, 0), (0, 0, 0)], [(1, 10, 0)], [(1, 33053, 0, 0, 6, 0), (1, 4, 0, 0, 11, 0)], 0, 0), (1135, [(12, 4, 12, 0)])),
  (34, ([(1, 10, 0), (0, 0, 0)], [(1, 128, 0)], [(1, 33053, 0, 0, 6, 0), (1, 4, 0, 0, 11, 0)], 0, 0), (1134, [(12, 4, 12, 0)]))]
def kd_X10_prices_4c18a7_1 : List (Nat × sf_D × sf_M) := [(35, ([(1, 10, 0), (0, 0, 0)], [(0, 0, 0), (1, 128, 0)], [(1, 33053, 0, 0, 6, 0), (1, 4, 0, 0, 11, 0), (1, 3, 0, 0, 11, 0), (2, 3, 4, 1, 0, 0)], 0, 0), (1133, [(12, 4, 12, 0)])),
  (36, ([(1, 10, 0), (0, 0, 0)], [(0, 0, 0), (0, 0, 0), (1, 128, 0)], [(1, 33053, 0, 0, 6, 0), (1, 4, 0, 0, 11, 0), (1, 3, 0, 0, 11, 0), (1, 6, 0, 5, 5, 0), (2, 3, 4, 1, 0, 0)], 0, 0), (1132, [(12, 4, 12, 0)])),
  (37, ([(1, 10, 0), (0, 0, 0)], [], [(1, 33053, 0, 0, 6, 0), (1, 4, 0, 0, 11, 0)], 0, 0), (1131, [(12, 4, 12, 0)])),
  (40, ([(1, 10, 0), (0, 0, 0)], [], [(1, 33053, 0, 0, 6, 0), (1, 4, 0, 1, 12, 0)], 0, 0), (1142, [(12, 4, 12, 0)])),
  (43, ([(1, 10, 0), (0, 0, 0)], [], [(1, 33053, 0, 0, 6, 0), (1, 4, 0, 12, 12, 0)], 0, 0), (1138, [])),
  (44, ([(1, 10, 0), (0, 0, 0)], [(0, 0, 0)], [(1, 33053, 0, 0, 6, 0), (1, 4, 0, 12, 12, 0), (1, 0, 0, 1, 1, 0)], 0, 0), (1137, [])),
  (45, ([(1, 10, 0), (0, 0, 0)], [], [(1, 33053, 0, 0, 6, 0), (1, 4, 0, 1, 60, 0)], 0, 0), (15, [(19, 4, 60, 0)])),
  (46, ([(1, 10, 0), (0, 0, 0)], [(0, 0, 0)], [(1, 33053, 0, 0, 6, 0), (1, 4, 0, 1, 60, 0), (1, 0, 0, 1, 60, 0), (2, 0, 4, 1, 0, 0)], 0, 0), (14, [(19, 4, 60, 0)])),
  (48, ([(1, 10, 0), (0, 0, 0)], [(0, 0, 0), (0, 0, 0)], [(1, 33053, 0, 0, 6, 0), (1, 4, 0, 1, 60, 0), (1, 0, 0, 1, 60, 0), (1, 3, 0, 60, 60, 0), (2, 0, 4, 1, 0, 0)], 0, 0), (13, [(19, 4, 60, 0)]))]
def kd_X10_prices_4c18a7_2 : List (Nat × sf_D × sf_M) := [(51, ([(1, 10, 0), (0, 0, 0)], [], [(1, 33053, 0, 0, 6, 0), (1, 4, 0, 1, 59, 0)], 0, 0), (12, [(19, 4, 60, 0)])),
  (52, ([(1, 10, 0), (0, 0, 0)], [(1, 10, 0)], [(1, 33053, 0, 0, 6, 0), (1, 4, 0, 1, 59, 0)], 0, 0), (11, [(19, 4, 60, 0)])),
  (55, ([(1, 10, 0), (0, 0, 0)], [(0, 0, 0)], [(1, 33053, 0, 0, 6, 0), (1, 4, 0, 1, 59, 0), (1, 0, 0, 0, 1, 0)], 0, 0), (10, [(19, 4, 60, 0)])),
  (58, ([(1, 10, 0), (0, 0, 0)], [], [(1, 33053, 0, 0, 6, 0), (1, 4, 0, 1, 59, 0)], 0, 0), (1, [])),
  (59, ([(1, 10, 0), (0, 0, 0)], [(0, 0, 0)], [(1, 33053, 0, 0, 6, 0), (1, 4, 0, 1, 59, 0), (1, 0, 0, 1, 59, 0), (2, 0, 4, 1, 0, 0)], 0, 0), (0, [])),
  (60, ([(1, 10, 0), (0, 0, 0)], [], [(1, 33053, 0, 0, 6, 0), (1, 4, 0, 1, 59, 0)], 0, 0), (9, [(19, 4, 60, 0)])),
  (61, ([(1, 10, 0), (0, 0, 0)], [(1, 10, 0)], [(1, 33053, 0, 0, 6, 0), (1, 4, 0, 1, 59, 0)], 0, 0), (8, [(19, 4, 60, 0)])),
  (64, ([(1, 10, 0), (0, 0, 0)], [(1, 1, 0)], [(1, 33053, 0, 0, 6, 0), (1, 4, 0, 1, 59, 0)], 0, 0), (7, [(19, 4, 60, 0)])),
  (65, ([(1, 10, 0), (0, 0, 0)], [(1, 10, 0), (1, 1, 0)], [(1, 33053, 0, 0, 6, 0), (1, 4, 0, 1, 59, 0)], 0, 0), (6, [(19, 4, 60, 0)])),
  (68, ([(1, 10, 0), (0, 0, 0)], [(1, 7, 0), (1, 1, 0)], [(1, 33053, 0, 0, 6, 0), (1, 4, 0, 1, 59, 0)], 0, 0), (5, [(19, 4, 60, 0)])),
  (69, ([(1, 10, 0), (0, 0, 0)], [(1, 10, 0), (1, 7, 0), (1, 1, 0)], [(1, 33053, 0, 0, 6, 0), (1, 4, 0, 1, 59, 0)], 0, 0), (4, [(19, 4, 60, 0)])),
  (72, ([(1, 10, 0), (0, 0, 0)], [(1, 13, 0), (1, 7, 0), (1, 1, 0)], [(1, 33053, 0, 0, 6, 0), (1, 4, 0, 1, 59, 0)], 0, 0), (3, [(19, 4, 60, 0)]))]
def kd_X10_prices_4c18a7_3 : List (Nat × sf_D × sf_M) := [(73, ([(1, 10, 0), (0, 0, 0)], [(0, 0, 0), (1, 13, 0), (1, 7, 0), (1, 1, 0)], [(1, 33053, 0, 0, 6, 0), (1, 4, 0, 1, 59, 0), (1, 9, 0, 1, 1, 0)], 0, 0), (2, [(19, 4, 60, 0)])),
  (76, ([(1, 10, 0), (0, 0, 0)], [(0, 0, 0)], [(1, 33053, 0, 0, 6, 0), (1, 4, 0, 1, 59, 0), (1, 0, 0, -400, 400, 0)], 0, 0), (1, [(19, 4, 60, 0)])),
  (77, ([(1, 10, 0), (0, 0, 0)], [], [(1, 33053, 0, 0, 6, 0), (1, 4, 0, 1, 59, 0)], 0, 0), (0, [(19, 4, 60, 0)])),
  (80, ([(1, 10, 0), (0, 0, 0)], [], [(1, 33053, 0, 0, 6, 0), (1, 4, 0, 2, 60, 0)], 0, 0), (16, [(19, 4, 60, 0)])),
  (83, ([(1, 10, 0), (0, 0, 0)], [], [(1, 33053, 0, 0, 6, 0), (1, 4, 0, 60, 60, 0)], 0, 0), (4, [])),
  (84, ([(1, 10, 0), (0, 0, 0)], [(1, 10, 0)], [(1, 33053, 0, 0, 6, 0), (1, 4, 0, 60, 60, 0)], 0, 0), (3, [])),
  (87, ([(1, 10, 0), (0, 0, 0)], [(0, 0, 0)], [(1, 33053, 0, 0, 6, 0), (1, 4, 0, 60, 60, 0), (1, 0, 0, 0, 1, 0)], 0, 0), (2, [])),
  (88, ([(1, 10, 0), (0, 0, 0)], [], [(1, 33053, 0, 0, 6, 0), (1, 4, 0, 60, 60, 0)], 0, 0), (1, [])),
  (90, ([(1, 10, 0), (0, 0, 0)], [(0, 0, 0)], [(1, 33053, 0, 0, 6, 0), (1, 4, 0, 60, 60, 0), (1, 0, 0, 60, 60, 0)], 0, 0), (0, []))]
def kd_X10_prices_4c18a7 : List (Nat × sf_D × sf_M) := kd_X10_prices_4c18a7_0 ++ (kd_X10_prices_4c18a7_1 ++ (kd_X10_prices_4c18a7_2 ++ (kd_X10_prices_4c18a7_3)))
set_option maxRecDepth 100000 in
theorem kt_X10_prices_4c18a7 : sf_chk [kq_X6_copyFrom_80a60b, kq_X10_movePrices_4c18a7, kq_X1_passDays_13] kq_X10_prices_4c18a7 2 kc_X10_prices_4c18a7 kd_X10_prices_4c18a7 = true := by decide +kernel
set_option maxRecDepth 100000 in
theorem kl_X10_prices_4c18a7 : (kc_X10_prices_4c18a7).map (fun c => (c.1, sf_den ([Z_X6_copyFrom, Z_X10_movePrices, Z_X1_passDays] : List sf_X) c.2)) = L_X10_prices Z_X6_copyFrom Z_X10_movePrices Z_X1_passDays := rfl
theorem ct_X10_prices_4c18a7 : sf_ct kq_X10_prices_4c18a7 Z_X10_prices := by
  have h := sf_meth (K := [kq_X6_copyFrom_80a60b, kq_X10_movePrices_4c18a7, kq_X1_passDays_13]) (E := [Z_X6_copyFrom, Z_X10_movePrices, Z_X1_passDays]) (k := kq_X10_prices_4c18a7) (nL := 2) (C := kc_X10_prices_4c18a7) (D := kd_X10_prices_4c18a7) (fun m k hk => match m, hk with
    | 0, hk => (Option.some.inj hk) ▸ ct_X6_copyFrom_80a60b
    | 1, hk => (Option.some.inj hk) ▸ ct_X10_movePrices_4c18a7
    | 2, hk => (Option.some.inj hk) ▸ ct_X1_passDays_13
    | _ + 3, hk => (by cases hk)) kt_X10_prices_4c18a7
  rw [kl_X10_prices_4c18a7] at h
  exact h
def kq_X10_price_57b5ea : sf_Q := ([(1, 10, 0), (0, 0, 0), (0, 0, 0)], [], some (0, 0, 0), [], [])
def kc_X10_price_57b5ea : List (Nat × sf_I) := [(0, 2, [1, 1]),
  (1, 20, [4, 23, 2]),
  (4, 2, [5, 1]),
  (5, 4, [6, 0]),
  (6, 23, [9, 10, 17]),
  (9, 21, [12, 23, 5]),
  (12, 2, [13, 2]),
  (13, 31, [16, 0, 1, 0, 0, 0, 0]),
  (16, 20, [19, 23, 0]),
  (19, 0, [20, 1]),
  (20, 22, [24]),
  (23, 0, [24, 0]),
  (24, 5, [25, 3]),
  (25, 2, [26, 3]),
  (26, 20, [29, 42, 0]),
  (29, 4, [30, 0]),
  (30, 23, [33, 10, 10]),
  (33, 2, [34, 1]),
  (34, 2, [35, 2]),
  (35, 31, [38, 1, 2, 0, 0, 0, 0]),
  (38, 25, [39, 1]),
  (39, 22, [43]),
  (42, 0, [43, -1]),
  (43, 35, [0, 0])]
def kd_X10_price_57b5ea_0 : List (Nat × sf_D × sf_M) := [(0, ([(1, 10, 0), (0, 0, 0), (0, 0, 0), (8, 0, 0)], [], [], 0, 0), (21, [])),
  (1, ([(1, 10, 0), (0, 0, 0), (0, 0, 0), (8, 0, 0)], [(0, 0, 0)], [(1, 0, 0, -2147483648, 2147483647, 0), (1, 4, 0, -2147483648, 2147483647, 0), (2, 0, 4, 1, 0, 0)], 0, 0), (20, [])),
  (4, ([(1, 10, 0), (0, 0, 0), (0, 0, 0), (8, 0, 0)], [], [(1, 4, 0, 0, 2147483647, 0)], 0, 0), (19, [])),
  (5, ([(1, 10, 0), (0, 0, 0), (0, 0, 0), (8, 0, 0)], [(0, 0, 0)], [(1, 4, 0, 0, 2147483647, 0), (1, 0, 0, 0, 2147483647, 0), (2, 0, 4, 1, 0, 0)], 0, 0), (18, [])),
  (6, ([(1, 10, 0), (0, 0, 0), (0, 0, 0), (8, 0, 0)], [(1, 10, 0), (0, 0, 0)], [(1, 4, 0, 0, 2147483647, 0), (1, 0, 0, 0, 2147483647, 0), (2, 0, 4, 1, 0, 0)], 0, 0), (17, [])),
  (9, ([(1, 10, 0), (0, 0, 0), (0, 0, 0), (8, 0, 0)], [(0, 0, 6), (0, 0, 0)], [(1, 4, 0, 0, 2147483647, 0), (1, 0, 0, 0, 2147483647, 0), (1, 3, 0, 0, 6, 0), (1, 33053, 0, -2147483648, 2147483647, 0), (2, 0, 4, 1, 0, 0), (2, 3, 33053, 1, 0, 0)], 0, 0), (16, [])),
  (12, ([(1, 10, 0), (0, 0, 0), (0, 0, 0), (8, 0, 0)], [], [(1, 4, 0, 0, 5, 0), (1, 33053, 0, 1, 6, 0)], 0, 0), (15, [])),
  (13, ([(1, 10, 0), (0, 0, 0), (0, 0, 0), (8, 0, 0)], [(0, 0, 0)], [(1, 4, 0, 0, 5, 0), (1, 33053, 0, 1, 6, 0), (1, 0, 0, -2147483648, 2147483647, 0), (1, 7, 0, -2147483648, 2147483647, 0), (2, 0, 7, 1, 0, 0)], 0, 0), (14, []))]
def kd_X10_price_57b5ea_1 : List (Nat × sf_D × sf_M) := [(16, ([(1, 10, 0), (0, 0, 0), (0, 0, 0), (8, 0, 0)], [(0, 0, 0)], [(1, 4, 0, 0, 5, 0), (1, 33053, 0, 1, 6, 0), (1, 7, 0, -2147483648, 2147483647, 0), (1, 0, 0, 0, 1, 0), (3, 0, 7, 0, 1, 0)], 0, 0), (13, [])),
  (19, ([(1, 10, 0), (0, 0, 0), (0, 0, 0), (8, 0, 0)], [], [(1, 4, 0, 0, 5, 0), (1, 33053, 0, 1, 6, 0), (1, 7, 0, 0, 1, 0)], 0, 0), (12, [])),
  (20, ([(1, 10, 0), (0, 0, 0), (0, 0, 0), (8, 0, 0)], [(0, 0, 0)], [(1, 4, 0, 0, 5, 0), (1, 33053, 0, 1, 6, 0), (1, 7, 0, 0, 1, 0), (1, 0, 0, 1, 1, 0)], 0, 0), (11, [])),
  (23, ([(1, 10, 0), (0, 0, 0), (0, 0, 0), (8, 0, 0)], [], [(1, 4, 0, -2147483648, 2147483647, 0)], 0, 0), (11, [])),
  (24, ([(1, 10, 0), (0, 0, 0), (0, 0, 0), (8, 0, 0)], [(0, 0, 0)], [(1, 4, 0, -2147483648, 2147483647, 0), (1, 0, 0, 0, 1, 0), (3, 0, 4, 0, 5, 0), (3, 0, 33053, 1, 6, 0), (3, 0, 7, 0, 1, 0)], 0, 0), (10, [])),
  (25, ([(1, 10, 0), (0, 0, 0), (0, 0, 0), (0, 0, 0)], [], [(1, 4, 0, -2147483648, 2147483647, 0), (1, 10, 0, 0, 1, 0), (3, 10, 4, 0, 5, 0), (3, 10, 33053, 1, 6, 0), (3, 10, 7, 0, 1, 0)], 0, 0), (9, []))]
def kd_X10_price_57b5ea_2 : List (Nat × sf_D × sf_M) := [(26, ([(1, 10, 0), (0, 0, 0), (0, 0, 0), (0, 0, 0)], [(0, 0, 0)], [(1, 4, 0, -2147483648, 2147483647, 0), (1, 10, 0, 0, 1, 0), (1, 0, 0, 0, 1, 0), (3, 10, 4, 0, 5, 0), (3, 10, 33053, 1, 6, 0), (3, 10, 7, 0, 1, 0), (2, 0, 10, 1, 0, 0)], 0, 0), (8, [])),
  (29, ([(1, 10, 0), (0, 0, 0), (0, 0, 0), (0, 0, 0)], [], [(1, 4, 0, 0, 5, 0), (1, 10, 0, 1, 1, 0), (1, 33053, 0, 1, 6, 0), (1, 7, 0, 0, 1, 0)], 0, 0), (7, [])),
  (30, ([(1, 10, 0), (0, 0, 0), (0, 0, 0), (0, 0, 0)], [(1, 10, 0)], [(1, 4, 0, 0, 5, 0), (1, 10, 0, 1, 1, 0), (1, 33053, 0, 1, 6, 0), (1, 7, 0, 0, 1, 0)], 0, 0), (6, [])),
  (33, ([(1, 10, 0), (0, 0, 0), (0, 0, 0), (0, 0, 0)], [(1, 128, 0)], [(1, 4, 0, 0, 5, 0), (1, 10, 0, 1, 1, 0), (1, 33053, 0, 1, 6, 0), (1, 7, 0, 0, 1, 0)], 0, 0), (5, [])),
  (34, ([(1, 10, 0), (0, 0, 0), (0, 0, 0), (0, 0, 0)], [(0, 0, 0), (1, 128, 0)], [(1, 4, 0, 0, 5, 0), (1, 10, 0, 1, 1, 0), (1, 33053, 0, 1, 6, 0), (1, 7, 0, 0, 1, 0), (1, 3, 0, 0, 5, 0), (2, 3, 4, 1, 0, 0)], 0, 0), (4, []))]
def kd_X10_price_57b5ea_3 : List (Nat × sf_D × sf_M) := [(35, ([(1, 10, 0), (0, 0, 0), (0, 0, 0), (0, 0, 0)], [(0, 0, 0), (0, 0, 0), (1, 128, 0)], [(1, 4, 0, 0, 5, 0), (1, 10, 0, 1, 1, 0), (1, 33053, 0, 1, 6, 0), (1, 7, 0, 0, 1, 0), (1, 3, 0, 0, 5, 0), (1, 6, 0, 0, 1, 0), (2, 3, 4, 1, 0, 0), (2, 6, 7, 1, 0, 0)], 0, 0), (3, [])),
  (38, ([(1, 10, 0), (0, 0, 0), (0, 0, 0), (0, 0, 0)], [(0, 0, 0), (1, 128, 0)], [(1, 4, 0, 0, 5, 0), (1, 10, 0, 1, 1, 0), (1, 33053, 0, 1, 6, 0), (1, 7, 0, 0, 1, 0), (1, 3, 0, 0, 11, 0)], 0, 0), (2, [])),
  (39, ([(1, 10, 0), (0, 0, 0), (0, 0, 0), (0, 0, 0)], [(0, 0, 0)], [(1, 4, 0, 0, 5, 0), (1, 10, 0, 1, 1, 0), (1, 33053, 0, 1, 6, 0), (1, 7, 0, 0, 1, 0), (1, 0, 0, -2147483648, 2147483647, 0)], 0, 0), (1, [])),
  (42, ([(1, 10, 0), (0, 0, 0), (0, 0, 0), (0, 0, 0)], [], [(1, 4, 0, -2147483648, 2147483647, 0), (1, 10, 0, 0, 0, 0), (3, 10, 4, 0, 5, 0), (3, 10, 33053, 1, 6, 0), (3, 10, 7, 0, 1, 0)], 0, 0), (1, [])),
  (43, ([(1, 10, 0), (0, 0, 0), (0, 0, 0), (0, 0, 0)], [(0, 0, 0)], [(1, 4, 0, -2147483648, 2147483647, 0), (1, 10, 0, 0, 1, 0), (1, 0, 0, -2147483648, 2147483647, 0), (3, 10, 4, 0, 5, 0), (3, 10, 33053, 1, 6, 0), (3, 10, 7, 0, 1, 0)], 0, 0), (0, []))]
def kd_X10_price_57b5ea : List (Nat × sf_D × sf_M) := kd_X10_price_57b5ea_0 ++ (kd_X10_price_57b5ea_1 ++ (kd_X10_price_57b5ea_2 ++ (kd_X10_price_57b5ea_3)))
set_option maxRecDepth 100000 in
theorem kt_X10_price_57b5ea : sf_chk [kq_X10_isShore_4956e8, kq_X10_slotOf_2f4f15] kq_X10_price_57b5ea 4 kc_X10_price_57b5ea kd_X10_price_57b5ea = true := by decide +kernel
set_option maxRecDepth 100000 in
theorem kl_X10_price_57b5ea : (kc_X10_price_57b5ea).map (fun c => (c.1, sf_den ([Z_X10_isShore, Z_X10_slotOf] : List sf_X) c.2)) = L_X10_price Z_X10_isShore Z_X10_slotOf := rfl
theorem ct_X10_price_57b5ea : sf_ct kq_X10_price_57b5ea Z_X10_price := by
  have h := sf_meth (K := [kq_X10_isShore_4956e8, kq_X10_slotOf_2f4f15]) (E := [Z_X10_isShore, Z_X10_slotOf]) (k := kq_X10_price_57b5ea) (nL := 4) (C := kc_X10_price_57b5ea) (D := kd_X10_price_57b5ea) (fun m k hk => match m, hk with
    | 0, hk => (Option.some.inj hk) ▸ ct_X10_isShore_4956e8
    | 1, hk => (Option.some.inj hk) ▸ ct_X10_slotOf_2f4f15
    | _ + 2, hk => (by cases hk)) kt_X10_price_57b5ea
  rw [kl_X10_price_57b5ea] at h
  exact h
def kq_X6_missersOf_49c0cb : sf_Q := ([(1, 6, 0), (1, 7, 0), (0, 0, 0)], [(1, 6, 0, 0, 7, 0)], some (0, 0, 0), [], [])
def kc_X6_missersOf_49c0cb : List (Nat × sf_I) := [(0, 0, [1, 0]),
  (1, 5, [2, 3]),
  (2, 0, [3, 0]),
  (3, 5, [5, 4]),
  (5, 2, [7, 4]),
  (7, 4, [8, 1]),
  (8, 23, [11, 7, 10]),
  (11, 21, [14, 53, 5]),
  (14, 4, [15, 1]),
  (15, 23, [18, 7, 5]),
  (18, 2, [20, 4]),
  (20, 25, [21, 1]),
  (21, 2, [22, 2]),
  (22, 21, [25, 47, 1]),
  (25, 4, [26, 0]),
  (26, 4, [27, 1]),
  (27, 2, [29, 4]),
  (29, 32, [32, 0, 3, 6, 0, 0, 0, 0]),
  (32, 20, [35, 47, 0]),
  (35, 2, [36, 3]),
  (36, 0, [37, 1]),
  (37, 4, [38, 1]),
  (38, 23, [41, 7, 4]),
  (41, 2, [43, 4]),
  (43, 25, [44, 1]),
  (44, 9, [45, 6]),
  (45, 9, [46, 4]),
  (46, 5, [47, 3]),
  (47, 8, [50, 4, 1]),
  (50, 22, [5]),
  (53, 2, [54, 3]),
  (54, 35, [0, 0])]
def kd_X6_missersOf_49c0cb_0 : List (Nat × sf_D × sf_M) := [(0, ([(1, 6, 0), (1, 7, 0), (0, 0, 0), (8, 0, 0), (8, 0, 0)], [], [(1, 7, 0, 0, 7, 0)], 0, 0), (588, [])),
  (1, ([(1, 6, 0), (1, 7, 0), (0, 0, 0), (8, 0, 0), (8, 0, 0)], [(0, 0, 0)], [(1, 7, 0, 0, 7, 0), (1, 0, 0, 0, 0, 0)], 0, 0), (587, [])),
  (2, ([(1, 6, 0), (1, 7, 0), (0, 0, 0), (0, 0, 0), (8, 0, 0)], [], [(1, 7, 0, 0, 7, 0), (1, 10, 0, 0, 0, 0)], 0, 0), (586, [])),
  (3, ([(1, 6, 0), (1, 7, 0), (0, 0, 0), (0, 0, 0), (8, 0, 0)], [(0, 0, 0)], [(1, 7, 0, 0, 7, 0), (1, 10, 0, 0, 0, 0), (1, 0, 0, 0, 0, 0)], 0, 0), (585, [])),
  (5, ([(1, 6, 0), (1, 7, 0), (0, 0, 0), (0, 0, 0), (0, 0, 0)], [], [(1, 7, 0, 0, 7, 0), (1, 10, 0, -2147483648, 2147483647, 0), (1, 13, 0, 0, 20, 0)], 0, 0), (24, [(28, 13, 20, 0)])),
  (7, ([(1, 6, 0), (1, 7, 0), (0, 0, 0), (0, 0, 0), (0, 0, 0)], [(0, 0, 0)], [(1, 7, 0, 0, 7, 0), (1, 10, 0, -2147483648, 2147483647, 0), (1, 13, 0, 0, 20, 0), (1, 0, 0, 0, 20, 0), (2, 0, 13, 1, 0, 0)], 0, 0), (23, [(28, 13, 20, 0)])),
  (8, ([(1, 6, 0), (1, 7, 0), (0, 0, 0), (0, 0, 0), (0, 0, 0)], [(1, 7, 0), (0, 0, 0)], [(1, 7, 0, 0, 7, 0), (1, 10, 0, -2147483648, 2147483647, 0), (1, 13, 0, 0, 20, 0), (1, 0, 0, 0, 20, 0), (2, 0, 13, 1, 0, 0)], 0, 0), (22, [(28, 13, 20, 0)]))]
def kd_X6_missersOf_49c0cb_1 : List (Nat × sf_D × sf_M) := [(11, ([(1, 6, 0), (1, 7, 0), (0, 0, 0), (0, 0, 0), (0, 0, 0)], [(0, 0, 20), (0, 0, 0)], [(1, 7, 0, 0, 7, 0), (1, 10, 0, -2147483648, 2147483647, 0), (1, 13, 0, 0, 20, 0), (1, 0, 0, 0, 20, 0), (1, 3, 0, 0, 20, 0), (2, 0, 13, 1, 0, 0)], 0, 0), (21, [(28, 13, 20, 0)])),
  (14, ([(1, 6, 0), (1, 7, 0), (0, 0, 0), (0, 0, 0), (0, 0, 0)], [], [(1, 7, 0, 0, 7, 0), (1, 10, 0, -2147483648, 2147483647, 0), (1, 13, 0, 0, 19, 0)], 0, 0), (20, [(28, 13, 20, 0)])),
  (15, ([(1, 6, 0), (1, 7, 0), (0, 0, 0), (0, 0, 0), (0, 0, 0)], [(1, 7, 0)], [(1, 7, 0, 0, 7, 0), (1, 10, 0, -2147483648, 2147483647, 0), (1, 13, 0, 0, 19, 0)], 0, 0), (19, [(28, 13, 20, 0)])),
  (18, ([(1, 6, 0), (1, 7, 0), (0, 0, 0), (0, 0, 0), (0, 0, 0)], [(1, 121, 0)], [(1, 7, 0, 0, 7, 0), (1, 10, 0, -2147483648, 2147483647, 0), (1, 13, 0, 0, 19, 0)], 0, 0), (18, [(28, 13, 20, 0)])),
  (20, ([(1, 6, 0), (1, 7, 0), (0, 0, 0), (0, 0, 0), (0, 0, 0)], [(0, 0, 0), (1, 121, 0)], [(1, 7, 0, 0, 7, 0), (1, 10, 0, -2147483648, 2147483647, 0), (1, 13, 0, 0, 19, 0), (1, 3, 0, 0, 19, 0), (2, 3, 13, 1, 0, 0)], 0, 0), (17, [(28, 13, 20, 0)])),
  (21, ([(1, 6, 0), (1, 7, 0), (0, 0, 0), (0, 0, 0), (0, 0, 0)], [(0, 0, 0)], [(1, 7, 0, 0, 7, 0), (1, 10, 0, -2147483648, 2147483647, 0), (1, 13, 0, 0, 19, 0), (1, 0, 0, 0, 7, 0)], 0, 0), (16, [(28, 13, 20, 0)]))]
def kd_X6_missersOf_49c0cb_2 : List (Nat × sf_D × sf_M) := [(22, ([(1, 6, 0), (1, 7, 0), (0, 0, 0), (0, 0, 0), (0, 0, 0)], [(0, 0, 0), (0, 0, 0)], [(1, 7, 0, 0, 7, 0), (1, 10, 0, -2147483648, 2147483647, 0), (1, 13, 0, 0, 19, 0), (1, 0, 0, 0, 7, 0), (1, 3, 0, 0, 7, 0), (2, 3, 7, 1, 0, 0)], 0, 0), (15, [(28, 13, 20, 0)])),
  (25, ([(1, 6, 0), (1, 7, 0), (0, 0, 0), (0, 0, 0), (0, 0, 0)], [], [(1, 7, 0, 0, 7, 0), (1, 10, 0, -2147483648, 2147483647, 0), (1, 13, 0, 0, 19, 0)], 0, 0), (14, [(28, 13, 20, 0)])),
  (26, ([(1, 6, 0), (1, 7, 0), (0, 0, 0), (0, 0, 0), (0, 0, 0)], [(1, 6, 0)], [(1, 7, 0, 0, 7, 0), (1, 10, 0, -2147483648, 2147483647, 0), (1, 13, 0, 0, 19, 0)], 0, 0), (13, [(28, 13, 20, 0)])),
  (27, ([(1, 6, 0), (1, 7, 0), (0, 0, 0), (0, 0, 0), (0, 0, 0)], [(1, 7, 0), (1, 6, 0)], [(1, 7, 0, 0, 7, 0), (1, 10, 0, -2147483648, 2147483647, 0), (1, 13, 0, 0, 19, 0)], 0, 0), (12, [(28, 13, 20, 0)])),
  (29, ([(1, 6, 0), (1, 7, 0), (0, 0, 0), (0, 0, 0), (0, 0, 0)], [(0, 0, 0), (1, 7, 0), (1, 6, 0)], [(1, 7, 0, 0, 7, 0), (1, 10, 0, -2147483648, 2147483647, 0), (1, 13, 0, 0, 19, 0), (1, 6, 0, 0, 19, 0), (2, 6, 13, 1, 0, 0)], 0, 0), (11, [(28, 13, 20, 0)])),
  (32, ([(1, 6, 0), (1, 7, 0), (0, 0, 0), (0, 0, 0), (0, 0, 0)], [(0, 0, 0)], [(1, 7, 0, 0, 7, 0), (1, 10, 0, -2147483648, 2147483647, 0), (1, 13, 0, 0, 19, 0), (1, 0, 0, 0, 1, 0)], 0, 0), (10, [(28, 13, 20, 0)]))]
def kd_X6_missersOf_49c0cb_3 : List (Nat × sf_D × sf_M) := [(35, ([(1, 6, 0), (1, 7, 0), (0, 0, 0), (0, 0, 0), (0, 0, 0)], [], [(1, 7, 0, 0, 7, 0), (1, 10, 0, -2147483648, 2147483647, 0), (1, 13, 0, 0, 19, 0)], 0, 0), (9, [(28, 13, 20, 0)])),
  (36, ([(1, 6, 0), (1, 7, 0), (0, 0, 0), (0, 0, 0), (0, 0, 0)], [(0, 0, 0)], [(1, 7, 0, 0, 7, 0), (1, 10, 0, -2147483648, 2147483647, 0), (1, 13, 0, 0, 19, 0), (1, 0, 0, -2147483648, 2147483647, 0), (2, 0, 10, 1, 0, 0)], 0, 0), (8, [(28, 13, 20, 0)])),
  (37, ([(1, 6, 0), (1, 7, 0), (0, 0, 0), (0, 0, 0), (0, 0, 0)], [(0, 0, 0), (0, 0, 0)], [(1, 7, 0, 0, 7, 0), (1, 10, 0, -2147483648, 2147483647, 0), (1, 13, 0, 0, 19, 0), (1, 0, 0, -2147483648, 2147483647, 0), (1, 3, 0, 1, 1, 0), (2, 0, 10, 1, 0, 0)], 0, 0), (7, [(28, 13, 20, 0)])),
  (38, ([(1, 6, 0), (1, 7, 0), (0, 0, 0), (0, 0, 0), (0, 0, 0)], [(1, 7, 0), (0, 0, 0), (0, 0, 0)], [(1, 7, 0, 0, 7, 0), (1, 10, 0, -2147483648, 2147483647, 0), (1, 13, 0, 0, 19, 0), (1, 0, 0, -2147483648, 2147483647, 0), (1, 3, 0, 1, 1, 0), (2, 0, 10, 1, 0, 0)], 0, 0), (6, [(28, 13, 20, 0)])),
  (41, ([(1, 6, 0), (1, 7, 0), (0, 0, 0), (0, 0, 0), (0, 0, 0)], [(1, 120, 0), (0, 0, 0), (0, 0, 0)], [(1, 7, 0, 0, 7, 0), (1, 10, 0, -2147483648, 2147483647, 0), (1, 13, 0, 0, 19, 0), (1, 0, 0, -2147483648, 2147483647, 0), (1, 3, 0, 1, 1, 0), (2, 0, 10, 1, 0, 0)], 0, 0), (5, [(28, 13, 20, 0)]))]
def kd_X6_missersOf_49c0cb_4 : List (Nat × sf_D × sf_M) := [(43, ([(1, 6, 0), (1, 7, 0), (0, 0, 0), (0, 0, 0), (0, 0, 0)], [(0, 0, 0), (1, 120, 0), (0, 0, 0), (0, 0, 0)], [(1, 7, 0, 0, 7, 0), (1, 10, 0, -2147483648, 2147483647, 0), (1, 13, 0, 0, 19, 0), (1, 0, 0, -2147483648, 2147483647, 0), (1, 3, 0, 1, 1, 0), (1, 9, 0, 0, 19, 0), (2, 0, 10, 1, 0, 0), (2, 9, 13, 1, 0, 0)], 0, 0), (4, [(28, 13, 20, 0)])),
  (44, ([(1, 6, 0), (1, 7, 0), (0, 0, 0), (0, 0, 0), (0, 0, 0)], [(0, 0, 0), (0, 0, 0), (0, 0, 0)], [(1, 7, 0, 0, 7, 0), (1, 10, 0, -2147483648, 2147483647, 0), (1, 13, 0, 0, 19, 0), (1, 0, 0, -2147483648, 2147483647, 0), (1, 3, 0, 1, 1, 0), (1, 6, 0, 0, 7, 0), (2, 0, 10, 1, 0, 0)], 0, 0), (3, [(28, 13, 20, 0)])),
  (45, ([(1, 6, 0), (1, 7, 0), (0, 0, 0), (0, 0, 0), (0, 0, 0)], [(0, 0, 0), (0, 0, 0)], [(1, 7, 0, 0, 7, 0), (1, 10, 0, -2147483648, 2147483647, 0), (1, 13, 0, 0, 19, 0), (1, 0, 0, -2147483648, 2147483647, 0), (1, 3, 0, -2147483648, 2147483647, 0), (2, 0, 10, 1, 0, 0)], 0, 0), (2, [(28, 13, 20, 0)])),
  (46, ([(1, 6, 0), (1, 7, 0), (0, 0, 0), (0, 0, 0), (0, 0, 0)], [(0, 0, 0)], [(1, 7, 0, 0, 7, 0), (1, 10, 0, -2147483648, 2147483647, 0), (1, 13, 0, 0, 19, 0), (1, 0, 0, -2147483648, 2147483647, 0)], 0, 0), (1, [(28, 13, 20, 0)])),
  (47, ([(1, 6, 0), (1, 7, 0), (0, 0, 0), (0, 0, 0), (0, 0, 0)], [], [(1, 7, 0, 0, 7, 0), (1, 10, 0, -2147483648, 2147483647, 0), (1, 13, 0, 0, 19, 0)], 0, 0), (0, [(28, 13, 20, 0)]))]
def kd_X6_missersOf_49c0cb_5 : List (Nat × sf_D × sf_M) := [(50, ([(1, 6, 0), (1, 7, 0), (0, 0, 0), (0, 0, 0), (0, 0, 0)], [], [(1, 7, 0, 0, 7, 0), (1, 10, 0, -2147483648, 2147483647, 0), (1, 13, 0, 1, 20, 0)], 0, 0), (25, [(28, 13, 20, 0)])),
  (53, ([(1, 6, 0), (1, 7, 0), (0, 0, 0), (0, 0, 0), (0, 0, 0)], [], [(1, 7, 0, 0, 7, 0), (1, 10, 0, -2147483648, 2147483647, 0), (1, 13, 0, 0, 20, 0)], 0, 0), (1, [])),
  (54, ([(1, 6, 0), (1, 7, 0), (0, 0, 0), (0, 0, 0), (0, 0, 0)], [(0, 0, 0)], [(1, 7, 0, 0, 7, 0), (1, 10, 0, -2147483648, 2147483647, 0), (1, 13, 0, 0, 20, 0), (1, 0, 0, -2147483648, 2147483647, 0), (2, 0, 10, 1, 0, 0)], 0, 0), (0, []))]
def kd_X6_missersOf_49c0cb : List (Nat × sf_D × sf_M) := kd_X6_missersOf_49c0cb_0 ++ (kd_X6_missersOf_49c0cb_1 ++ (kd_X6_missersOf_49c0cb_2 ++ (kd_X6_missersOf_49c0cb_3 ++ (kd_X6_missersOf_49c0cb_4 ++ (kd_X6_missersOf_49c0cb_5)))))
set_option maxRecDepth 100000 in
theorem kt_X6_missersOf_49c0cb : sf_chk [kq_X6_isFelt_c5165c] kq_X6_missersOf_49c0cb 5 kc_X6_missersOf_49c0cb kd_X6_missersOf_49c0cb = true := by decide +kernel
set_option maxRecDepth 100000 in
theorem kl_X6_missersOf_49c0cb : (kc_X6_missersOf_49c0cb).map (fun c => (c.1, sf_den ([Z_X6_isFelt] : List sf_X) c.2)) = L_X6_missersOf Z_X6_isFelt := rfl
theorem ct_X6_missersOf_49c0cb : sf_ct kq_X6_missersOf_49c0cb Z_X6_missersOf := by
  have h := sf_meth (K := [kq_X6_isFelt_c5165c]) (E := [Z_X6_isFelt]) (k := kq_X6_missersOf_49c0cb) (nL := 5) (C := kc_X6_missersOf_49c0cb) (D := kd_X6_missersOf_49c0cb) (fun m k hk => match m, hk with
    | 0, hk => (Option.some.inj hk) ▸ ct_X6_isFelt_c5165c
    | _ + 1, hk => (by cases hk)) kt_X6_missersOf_49c0cb
  rw [kl_X6_missersOf_49c0cb] at h
  exact h
def kq_J6_bitCount_0f7a4_4956e8 : sf_Q := ([(0, 0, 0)], [], some (0, 0, 0), [(1, 0, 0, 0, 63, 0)], [])
def kc_J6_bitCount_0f7a4_4956e8 : List (Nat × sf_I) := [(0, 2, [1, 0]),
  (1, 2, [2, 0]),
  (2, 0, [3, 1]),
  (3, 9, [4, 8]),
  (4, 0, [7, 1431655765]),
  (7, 9, [8, 3]),
  (8, 9, [9, 1]),
  (9, 5, [10, 0]),
  (10, 2, [11, 0]),
  (11, 0, [14, 858993459]),
  (14, 9, [15, 3]),
  (15, 2, [16, 0]),
  (16, 0, [17, 2]),
  (17, 9, [18, 8]),
  (18, 0, [21, 858993459]),
  (21, 9, [22, 3]),
  (22, 9, [23, 0]),
  (23, 5, [24, 0]),
  (24, 2, [25, 0]),
  (25, 2, [26, 0]),
  (26, 0, [27, 4]),
  (27, 9, [28, 8]),
  (28, 9, [29, 0]),
  (29, 0, [32, 252645135]),
  (32, 9, [33, 3]),
  (33, 5, [34, 0]),
  (34, 2, [35, 0]),
  (35, 2, [36, 0]),
  (36, 0, [38, 8]),
  (38, 9, [39, 8]),
  (39, 9, [40, 0]),
  (40, 5, [41, 0]),
  (41, 2, [42, 0]),
  (42, 2, [43, 0]),
  (43, 0, [45, 16]),
  (45, 9, [46, 8]),
  (46, 9, [47, 0]),
  (47, 5, [48, 0]),
  (48, 2, [49, 0]),
  (49, 0, [51, 63]),
  (51, 9, [52, 3]),
  (52, 35, [0, 0])]
def kd_J6_bitCount_0f7a4_4956e8_0 : List (Nat × sf_D × sf_M) := [(0, ([(0, 0, 0)], [], [], 0, 0), (41, [])),
  (1, ([(0, 0, 0)], [(0, 0, 0)], [(1, 0, 0, -2147483648, 2147483647, 0), (1, 1, 0, -2147483648, 2147483647, 0), (2, 0, 1, 1, 0, 0)], 0, 0), (40, [])),
  (2, ([(0, 0, 0)], [(0, 0, 0), (0, 0, 0)], [(1, 0, 0, -2147483648, 2147483647, 0), (1, 1, 0, -2147483648, 2147483647, 0), (1, 3, 0, -2147483648, 2147483647, 0), (2, 0, 1, 1, 0, 0), (2, 3, 1, 1, 0, 0)], 0, 0), (39, [])),
  (3, ([(0, 0, 0)], [(0, 0, 0), (0, 0, 0), (0, 0, 0)], [(1, 0, 0, -2147483648, 2147483647, 0), (1, 1, 0, -2147483648, 2147483647, 0), (1, 3, 0, -2147483648, 2147483647, 0), (1, 6, 0, 1, 1, 0), (2, 0, 1, 1, 0, 0), (2, 3, 1, 1, 0, 0)], 0, 0), (38, [])),
  (4, ([(0, 0, 0)], [(0, 0, 0), (0, 0, 0)], [(1, 0, 0, -2147483648, 2147483647, 0), (1, 1, 0, -2147483648, 2147483647, 0), (1, 3, 0, -2147483648, 2147483647, 0), (2, 0, 1, 1, 0, 0)], 0, 0), (37, [])),
  (7, ([(0, 0, 0)], [(0, 0, 0), (0, 0, 0), (0, 0, 0)], [(1, 0, 0, -2147483648, 2147483647, 0), (1, 1, 0, -2147483648, 2147483647, 0), (1, 3, 0, -2147483648, 2147483647, 0), (1, 6, 0, 1431655765, 1431655765, 0), (2, 0, 1, 1, 0, 0)], 0, 0), (36, [])),
  (8, ([(0, 0, 0)], [(0, 0, 0), (0, 0, 0)], [(1, 0, 0, -2147483648, 2147483647, 0), (1, 1, 0, -2147483648, 2147483647, 0), (1, 3, 0, 0, 1431655765, 0), (2, 0, 1, 1, 0, 0)], 0, 0), (35, [])),
  (9, ([(0, 0, 0)], [(0, 0, 0)], [(1, 1, 0, -2147483648, 2147483647, 0), (1, 0, 0, -2147483648, 2147483647, 0)], 0, 0), (34, [])),
  (10, ([(0, 0, 0)], [], [(1, 1, 0, -2147483648, 2147483647, 0)], 0, 0), (33, []))]
def kd_J6_bitCount_0f7a4_4956e8_1 : List (Nat × sf_D × sf_M) := [(11, ([(0, 0, 0)], [(0, 0, 0)], [(1, 1, 0, -2147483648, 2147483647, 0), (1, 0, 0, -2147483648, 2147483647, 0), (2, 0, 1, 1, 0, 0)], 0, 0), (32, [])),
  (14, ([(0, 0, 0)], [(0, 0, 0), (0, 0, 0)], [(1, 1, 0, -2147483648, 2147483647, 0), (1, 0, 0, -2147483648, 2147483647, 0), (1, 3, 0, 858993459, 858993459, 0), (2, 0, 1, 1, 0, 0)], 0, 0), (31, [])),
  (15, ([(0, 0, 0)], [(0, 0, 0)], [(1, 1, 0, -2147483648, 2147483647, 0), (1, 0, 0, 0, 858993459, 0)], 0, 0), (30, [])),
  (16, ([(0, 0, 0)], [(0, 0, 0), (0, 0, 0)], [(1, 1, 0, -2147483648, 2147483647, 0), (1, 0, 0, 0, 858993459, 0), (1, 3, 0, -2147483648, 2147483647, 0), (2, 3, 1, 1, 0, 0)], 0, 0), (29, [])),
  (17, ([(0, 0, 0)], [(0, 0, 0), (0, 0, 0), (0, 0, 0)], [(1, 1, 0, -2147483648, 2147483647, 0), (1, 0, 0, 0, 858993459, 0), (1, 3, 0, -2147483648, 2147483647, 0), (1, 6, 0, 2, 2, 0), (2, 3, 1, 1, 0, 0)], 0, 0), (28, [])),
  (18, ([(0, 0, 0)], [(0, 0, 0), (0, 0, 0)], [(1, 1, 0, -2147483648, 2147483647, 0), (1, 0, 0, 0, 858993459, 0), (1, 3, 0, -2147483648, 2147483647, 0)], 0, 0), (27, [])),
  (21, ([(0, 0, 0)], [(0, 0, 0), (0, 0, 0), (0, 0, 0)], [(1, 1, 0, -2147483648, 2147483647, 0), (1, 0, 0, 0, 858993459, 0), (1, 3, 0, -2147483648, 2147483647, 0), (1, 6, 0, 858993459, 858993459, 0)], 0, 0), (26, [])),
  (22, ([(0, 0, 0)], [(0, 0, 0), (0, 0, 0)], [(1, 1, 0, -2147483648, 2147483647, 0), (1, 0, 0, 0, 858993459, 0), (1, 3, 0, 0, 858993459, 0)], 0, 0), (25, [])),
  (23, ([(0, 0, 0)], [(0, 0, 0)], [(1, 1, 0, -2147483648, 2147483647, 0), (1, 0, 0, 0, 1717986918, 0)], 0, 0), (24, []))]
def kd_J6_bitCount_0f7a4_4956e8_2 : List (Nat × sf_D × sf_M) := [(24, ([(0, 0, 0)], [], [(1, 1, 0, 0, 1717986918, 0)], 0, 0), (23, [])),
  (25, ([(0, 0, 0)], [(0, 0, 0)], [(1, 1, 0, 0, 1717986918, 0), (1, 0, 0, 0, 1717986918, 0), (2, 0, 1, 1, 0, 0)], 0, 0), (22, [])),
  (26, ([(0, 0, 0)], [(0, 0, 0), (0, 0, 0)], [(1, 1, 0, 0, 1717986918, 0), (1, 0, 0, 0, 1717986918, 0), (1, 3, 0, 0, 1717986918, 0), (2, 0, 1, 1, 0, 0), (2, 3, 1, 1, 0, 0)], 0, 0), (21, [])),
  (27, ([(0, 0, 0)], [(0, 0, 0), (0, 0, 0), (0, 0, 0)], [(1, 1, 0, 0, 1717986918, 0), (1, 0, 0, 0, 1717986918, 0), (1, 3, 0, 0, 1717986918, 0), (1, 6, 0, 4, 4, 0), (2, 0, 1, 1, 0, 0), (2, 3, 1, 1, 0, 0)], 0, 0), (20, [])),
  (28, ([(0, 0, 0)], [(0, 0, 0), (0, 0, 0)], [(1, 1, 0, 0, 1717986918, 0), (1, 0, 0, 0, 1717986918, 0), (1, 3, 0, -2147483648, 2147483647, 0), (2, 0, 1, 1, 0, 0)], 0, 0), (19, [])),
  (29, ([(0, 0, 0)], [(0, 0, 0)], [(1, 1, 0, 0, 1717986918, 0), (1, 0, 0, -2147483648, 2147483647, 0)], 0, 0), (18, [])),
  (32, ([(0, 0, 0)], [(0, 0, 0), (0, 0, 0)], [(1, 1, 0, 0, 1717986918, 0), (1, 0, 0, -2147483648, 2147483647, 0), (1, 3, 0, 252645135, 252645135, 0)], 0, 0), (17, [])),
  (33, ([(0, 0, 0)], [(0, 0, 0)], [(1, 1, 0, 0, 1717986918, 0), (1, 0, 0, 0, 252645135, 0)], 0, 0), (16, [])),
  (34, ([(0, 0, 0)], [], [(1, 1, 0, 0, 252645135, 0)], 0, 0), (15, [])),
  (35, ([(0, 0, 0)], [(0, 0, 0)], [(1, 1, 0, 0, 252645135, 0), (1, 0, 0, 0, 252645135, 0), (2, 0, 1, 1, 0, 0)], 0, 0), (14, []))]
def kd_J6_bitCount_0f7a4_4956e8_3 : List (Nat × sf_D × sf_M) := [(36, ([(0, 0, 0)], [(0, 0, 0), (0, 0, 0)], [(1, 1, 0, 0, 252645135, 0), (1, 0, 0, 0, 252645135, 0), (1, 3, 0, 0, 252645135, 0), (2, 0, 1, 1, 0, 0), (2, 3, 1, 1, 0, 0)], 0, 0), (13, [])),
  (38, ([(0, 0, 0)], [(0, 0, 0), (0, 0, 0), (0, 0, 0)], [(1, 1, 0, 0, 252645135, 0), (1, 0, 0, 0, 252645135, 0), (1, 3, 0, 0, 252645135, 0), (1, 6, 0, 8, 8, 0), (2, 0, 1, 1, 0, 0), (2, 3, 1, 1, 0, 0)], 0, 0), (12, [])),
  (39, ([(0, 0, 0)], [(0, 0, 0), (0, 0, 0)], [(1, 1, 0, 0, 252645135, 0), (1, 0, 0, 0, 252645135, 0), (1, 3, 0, 0, 16777215, 0), (2, 0, 1, 1, 0, 0)], 0, 0), (11, [])),
  (40, ([(0, 0, 0)], [(0, 0, 0)], [(1, 1, 0, 0, 252645135, 0), (1, 0, 0, 0, 269422350, 0)], 0, 0), (10, [])),
  (41, ([(0, 0, 0)], [], [(1, 1, 0, 0, 269422350, 0)], 0, 0), (9, [])),
  (42, ([(0, 0, 0)], [(0, 0, 0)], [(1, 1, 0, 0, 269422350, 0), (1, 0, 0, 0, 269422350, 0), (2, 0, 1, 1, 0, 0)], 0, 0), (8, [])),
  (43, ([(0, 0, 0)], [(0, 0, 0), (0, 0, 0)], [(1, 1, 0, 0, 269422350, 0), (1, 0, 0, 0, 269422350, 0), (1, 3, 0, 0, 269422350, 0), (2, 0, 1, 1, 0, 0), (2, 3, 1, 1, 0, 0)], 0, 0), (7, [])),
  (45, ([(0, 0, 0)], [(0, 0, 0), (0, 0, 0), (0, 0, 0)], [(1, 1, 0, 0, 269422350, 0), (1, 0, 0, 0, 269422350, 0), (1, 3, 0, 0, 269422350, 0), (1, 6, 0, 16, 16, 0), (2, 0, 1, 1, 0, 0), (2, 3, 1, 1, 0, 0)], 0, 0), (6, []))]
def kd_J6_bitCount_0f7a4_4956e8_4 : List (Nat × sf_D × sf_M) := [(46, ([(0, 0, 0)], [(0, 0, 0), (0, 0, 0)], [(1, 1, 0, 0, 269422350, 0), (1, 0, 0, 0, 269422350, 0), (1, 3, 0, -2147483648, 2147483647, 0), (2, 0, 1, 1, 0, 0)], 0, 0), (5, [])),
  (47, ([(0, 0, 0)], [(0, 0, 0)], [(1, 1, 0, 0, 269422350, 0), (1, 0, 0, -2147483648, 2147483647, 0)], 0, 0), (4, [])),
  (48, ([(0, 0, 0)], [], [(1, 1, 0, -2147483648, 2147483647, 0)], 0, 0), (3, [])),
  (49, ([(0, 0, 0)], [(0, 0, 0)], [(1, 1, 0, -2147483648, 2147483647, 0), (1, 0, 0, -2147483648, 2147483647, 0), (2, 0, 1, 1, 0, 0)], 0, 0), (2, [])),
  (51, ([(0, 0, 0)], [(0, 0, 0), (0, 0, 0)], [(1, 1, 0, -2147483648, 2147483647, 0), (1, 0, 0, -2147483648, 2147483647, 0), (1, 3, 0, 63, 63, 0), (2, 0, 1, 1, 0, 0)], 0, 0), (1, [])),
  (52, ([(0, 0, 0)], [(0, 0, 0)], [(1, 1, 0, -2147483648, 2147483647, 0), (1, 0, 0, 0, 63, 0)], 0, 0), (0, []))]
def kd_J6_bitCount_0f7a4_4956e8 : List (Nat × sf_D × sf_M) := kd_J6_bitCount_0f7a4_4956e8_0 ++ (kd_J6_bitCount_0f7a4_4956e8_1 ++ (kd_J6_bitCount_0f7a4_4956e8_2 ++ (kd_J6_bitCount_0f7a4_4956e8_3 ++ (kd_J6_bitCount_0f7a4_4956e8_4))))
set_option maxRecDepth 100000 in
theorem kt_J6_bitCount_0f7a4_4956e8 : sf_chk [] kq_J6_bitCount_0f7a4_4956e8 1 kc_J6_bitCount_0f7a4_4956e8 kd_J6_bitCount_0f7a4_4956e8 = true := by decide +kernel
set_option maxRecDepth 100000 in
theorem kl_J6_bitCount_0f7a4_4956e8 : (kc_J6_bitCount_0f7a4_4956e8).map (fun c => (c.1, sf_den ([] : List sf_X) c.2)) = L_J6_bitCount_0f7a4 := rfl
theorem ct_J6_bitCount_0f7a4_4956e8 : sf_ct kq_J6_bitCount_0f7a4_4956e8 Z_J6_bitCount_0f7a4 := by
  have h := sf_meth (K := []) (E := []) (k := kq_J6_bitCount_0f7a4_4956e8) (nL := 1) (C := kc_J6_bitCount_0f7a4_4956e8) (D := kd_J6_bitCount_0f7a4_4956e8) (fun m k hk => match m, hk with
    | _ + 0, hk => (by cases hk)) kt_J6_bitCount_0f7a4_4956e8
  rw [kl_J6_bitCount_0f7a4_4956e8] at h
  exact h
def kq_X10_dearest_4c18a7 : sf_Q := ([(1, 10, 0)], [], some (0, 0, 0), [(1, 0, 0, -1, 7, 0)], [])
def kc_X10_dearest_4c18a7 : List (Nat × sf_I) := [(0, 0, [1, 0]),
  (1, 5, [2, 1]),
  (2, 0, [3, -1]),
  (3, 5, [4, 2]),
  (4, 0, [5, 0]),
  (5, 5, [6, 3]),
  (6, 2, [7, 3]),
  (7, 4, [8, 0]),
  (8, 23, [11, 10, 13]),
  (11, 23, [14, 7, 9]),
  (14, 21, [17, 51, 5]),
  (17, 4, [18, 0]),
  (18, 23, [21, 10, 4]),
  (21, 4, [22, 0]),
  (22, 23, [25, 10, 13]),
  (25, 2, [26, 3]),
  (26, 32, [29, 0, 3, 6, 0, 0, 0, 0]),
  (29, 31, [32, 1, 1, 0, 0, 0, 0]),
  (32, 5, [34, 4]),
  (34, 2, [36, 4]),
  (36, 2, [37, 1]),
  (37, 21, [40, 45, 3]),
  (40, 2, [42, 4]),
  (42, 5, [43, 1]),
  (43, 2, [44, 3]),
  (44, 5, [45, 2]),
  (45, 8, [48, 3, 1]),
  (48, 22, [6]),
  (51, 2, [52, 2]),
  (52, 35, [0, 0])]
def kd_X10_dearest_4c18a7_0 : List (Nat × sf_D × sf_M) := [(0, ([(1, 10, 0), (8, 0, 0), (8, 0, 0), (8, 0, 0), (8, 0, 0)], [], [], 0, 0), (218, [])),
  (1, ([(1, 10, 0), (8, 0, 0), (8, 0, 0), (8, 0, 0), (8, 0, 0)], [(0, 0, 0)], [(1, 0, 0, 0, 0, 0)], 0, 0), (217, [])),
  (2, ([(1, 10, 0), (0, 0, 0), (8, 0, 0), (8, 0, 0), (8, 0, 0)], [], [(1, 4, 0, 0, 0, 0)], 0, 0), (216, [])),
  (3, ([(1, 10, 0), (0, 0, 0), (8, 0, 0), (8, 0, 0), (8, 0, 0)], [(0, 0, 0)], [(1, 4, 0, 0, 0, 0), (1, 0, 0, -1, -1, 0)], 0, 0), (215, [])),
  (4, ([(1, 10, 0), (0, 0, 0), (0, 0, 0), (8, 0, 0), (8, 0, 0)], [], [(1, 4, 0, 0, 0, 0), (1, 7, 0, -1, -1, 0)], 0, 0), (214, [])),
  (5, ([(1, 10, 0), (0, 0, 0), (0, 0, 0), (8, 0, 0), (8, 0, 0)], [(0, 0, 0)], [(1, 4, 0, 0, 0, 0), (1, 7, 0, -1, -1, 0), (1, 0, 0, 0, 0, 0)], 0, 0), (213, [])),
  (6, ([(1, 10, 0), (0, 0, 0), (0, 0, 0), (0, 0, 0), (8, 0, 0)], [], [(1, 4, 0, 0, 63, 0), (1, 7, 0, -1, 7, 0), (1, 10, 0, 0, 8, 0), (3, 7, 4, 1, 63, -1)], 0, 0), (20, [(24, 10, 8, 0)])),
  (7, ([(1, 10, 0), (0, 0, 0), (0, 0, 0), (0, 0, 0), (8, 0, 0)], [(0, 0, 0)], [(1, 4, 0, 0, 63, 0), (1, 7, 0, -1, 7, 0), (1, 10, 0, 0, 8, 0), (1, 0, 0, 0, 8, 0), (3, 7, 4, 1, 63, -1), (2, 0, 10, 1, 0, 0)], 0, 0), (19, [(24, 10, 8, 0)]))]
def kd_X10_dearest_4c18a7_1 : List (Nat × sf_D × sf_M) := [(8, ([(1, 10, 0), (0, 0, 0), (0, 0, 0), (0, 0, 0), (8, 0, 0)], [(1, 10, 0), (0, 0, 0)], [(1, 4, 0, 0, 63, 0), (1, 7, 0, -1, 7, 0), (1, 10, 0, 0, 8, 0), (1, 0, 0, 0, 8, 0), (3, 7, 4, 1, 63, -1), (2, 0, 10, 1, 0, 0)], 0, 0), (18, [(24, 10, 8, 0)])),
  (11, ([(1, 10, 0), (0, 0, 0), (0, 0, 0), (0, 0, 0), (8, 0, 0)], [(1, 7, 0), (0, 0, 0)], [(1, 4, 0, 0, 63, 0), (1, 7, 0, -1, 7, 0), (1, 10, 0, 0, 8, 0), (1, 0, 0, 0, 8, 0), (3, 7, 4, 1, 63, -1), (2, 0, 10, 1, 0, 0)], 0, 0), (17, [(24, 10, 8, 0)])),
  (14, ([(1, 10, 0), (0, 0, 0), (0, 0, 0), (0, 0, 0), (8, 0, 0)], [(0, 0, 8), (0, 0, 0)], [(1, 4, 0, 0, 63, 0), (1, 7, 0, -1, 7, 0), (1, 10, 0, 0, 8, 0), (1, 0, 0, 0, 8, 0), (1, 3, 0, 0, 8, 0), (2, 0, 10, 1, 0, 0), (3, 7, 4, 1, 63, -1)], 0, 0), (16, [(24, 10, 8, 0)])),
  (17, ([(1, 10, 0), (0, 0, 0), (0, 0, 0), (0, 0, 0), (8, 0, 0)], [], [(1, 4, 0, 0, 63, 0), (1, 7, 0, -1, 7, 0), (1, 10, 0, 0, 7, 0), (3, 7, 4, 1, 63, -1)], 0, 0), (15, [(24, 10, 8, 0)])),
  (18, ([(1, 10, 0), (0, 0, 0), (0, 0, 0), (0, 0, 0), (8, 0, 0)], [(1, 10, 0)], [(1, 4, 0, 0, 63, 0), (1, 7, 0, -1, 7, 0), (1, 10, 0, 0, 7, 0), (3, 7, 4, 1, 63, -1)], 0, 0), (14, [(24, 10, 8, 0)]))]
def kd_X10_dearest_4c18a7_2 : List (Nat × sf_D × sf_M) := [(21, ([(1, 10, 0), (0, 0, 0), (0, 0, 0), (0, 0, 0), (8, 0, 0)], [(1, 6, 0)], [(1, 4, 0, 0, 63, 0), (1, 7, 0, -1, 7, 0), (1, 10, 0, 0, 7, 0), (3, 7, 4, 1, 63, -1)], 0, 0), (13, [(24, 10, 8, 0)])),
  (22, ([(1, 10, 0), (0, 0, 0), (0, 0, 0), (0, 0, 0), (8, 0, 0)], [(1, 10, 0), (1, 6, 0)], [(1, 4, 0, 0, 63, 0), (1, 7, 0, -1, 7, 0), (1, 10, 0, 0, 7, 0), (3, 7, 4, 1, 63, -1)], 0, 0), (12, [(24, 10, 8, 0)])),
  (25, ([(1, 10, 0), (0, 0, 0), (0, 0, 0), (0, 0, 0), (8, 0, 0)], [(1, 7, 0), (1, 6, 0)], [(1, 4, 0, 0, 63, 0), (1, 7, 0, -1, 7, 0), (1, 10, 0, 0, 7, 0), (3, 7, 4, 1, 63, -1)], 0, 0), (11, [(24, 10, 8, 0)])),
  (26, ([(1, 10, 0), (0, 0, 0), (0, 0, 0), (0, 0, 0), (8, 0, 0)], [(0, 0, 0), (1, 7, 0), (1, 6, 0)], [(1, 4, 0, 0, 63, 0), (1, 7, 0, -1, 7, 0), (1, 10, 0, 0, 7, 0), (1, 6, 0, 0, 7, 0), (3, 7, 4, 1, 63, -1), (2, 6, 10, 1, 0, 0)], 0, 0), (10, [(24, 10, 8, 0)])),
  (29, ([(1, 10, 0), (0, 0, 0), (0, 0, 0), (0, 0, 0), (8, 0, 0)], [(0, 0, 0)], [(1, 4, 0, 0, 63, 0), (1, 7, 0, -1, 7, 0), (1, 10, 0, 0, 7, 0), (1, 0, 0, -2147483648, 2147483647, 0), (3, 7, 4, 1, 63, -1)], 0, 0), (9, [(24, 10, 8, 0)])),
  (32, ([(1, 10, 0), (0, 0, 0), (0, 0, 0), (0, 0, 0), (8, 0, 0)], [(0, 0, 0)], [(1, 4, 0, 0, 63, 0), (1, 7, 0, -1, 7, 0), (1, 10, 0, 0, 7, 0), (1, 0, 0, 0, 63, 0), (3, 7, 4, 1, 63, -1)], 0, 0), (8, [(24, 10, 8, 0)]))]
def kd_X10_dearest_4c18a7_3 : List (Nat × sf_D × sf_M) := [(34, ([(1, 10, 0), (0, 0, 0), (0, 0, 0), (0, 0, 0), (0, 0, 0)], [], [(1, 4, 0, 0, 63, 0), (1, 7, 0, -1, 7, 0), (1, 10, 0, 0, 7, 0), (1, 13, 0, 0, 63, 0), (3, 7, 4, 1, 63, -1)], 0, 0), (7, [(24, 10, 8, 0)])),
  (36, ([(1, 10, 0), (0, 0, 0), (0, 0, 0), (0, 0, 0), (0, 0, 0)], [(0, 0, 0)], [(1, 4, 0, 0, 63, 0), (1, 7, 0, -1, 7, 0), (1, 10, 0, 0, 7, 0), (1, 13, 0, 0, 63, 0), (1, 0, 0, 0, 63, 0), (3, 7, 4, 1, 63, -1), (2, 0, 13, 1, 0, 0)], 0, 0), (6, [(24, 10, 8, 0)])),
  (37, ([(1, 10, 0), (0, 0, 0), (0, 0, 0), (0, 0, 0), (0, 0, 0)], [(0, 0, 0), (0, 0, 0)], [(1, 4, 0, 0, 63, 0), (1, 7, 0, -1, 7, 0), (1, 10, 0, 0, 7, 0), (1, 13, 0, 0, 63, 0), (1, 0, 0, 0, 63, 0), (1, 3, 0, 0, 63, 0), (3, 7, 4, 1, 63, -1), (2, 0, 13, 1, 0, 0), (2, 3, 4, 1, 0, 0)], 0, 0), (5, [(24, 10, 8, 0)])),
  (40, ([(1, 10, 0), (0, 0, 0), (0, 0, 0), (0, 0, 0), (0, 0, 0)], [], [(1, 4, 0, 0, 62, 0), (1, 7, 0, -1, 7, 0), (1, 10, 0, 0, 7, 0), (1, 13, 0, 1, 63, 0), (3, 7, 4, 1, 63, -1)], 0, 0), (4, [(24, 10, 8, 0)]))]
def kd_X10_dearest_4c18a7_4 : List (Nat × sf_D × sf_M) := [(42, ([(1, 10, 0), (0, 0, 0), (0, 0, 0), (0, 0, 0), (0, 0, 0)], [(0, 0, 0)], [(1, 4, 0, 0, 62, 0), (1, 7, 0, -1, 7, 0), (1, 10, 0, 0, 7, 0), (1, 13, 0, 1, 63, 0), (1, 0, 0, 1, 63, 0), (3, 7, 4, 1, 63, -1), (2, 0, 13, 1, 0, 0)], 0, 0), (3, [(24, 10, 8, 0)])),
  (43, ([(1, 10, 0), (0, 0, 0), (0, 0, 0), (0, 0, 0), (0, 0, 0)], [], [(1, 7, 0, -1, 7, 0), (1, 10, 0, 0, 7, 0), (1, 13, 0, 1, 63, 0), (1, 4, 0, 1, 63, 0), (2, 4, 13, 1, 0, 0)], 0, 0), (2, [(24, 10, 8, 0)])),
  (44, ([(1, 10, 0), (0, 0, 0), (0, 0, 0), (0, 0, 0), (0, 0, 0)], [(0, 0, 0)], [(1, 7, 0, -1, 7, 0), (1, 10, 0, 0, 7, 0), (1, 13, 0, 1, 63, 0), (1, 4, 0, 1, 63, 0), (1, 0, 0, 0, 7, 0), (2, 4, 13, 1, 0, 0), (2, 0, 10, 1, 0, 0)], 0, 0), (1, [(24, 10, 8, 0)])),
  (45, ([(1, 10, 0), (0, 0, 0), (0, 0, 0), (0, 0, 0), (0, 0, 0)], [], [(1, 4, 0, 0, 63, 0), (1, 7, 0, -1, 7, 0), (1, 10, 0, 0, 7, 0), (1, 13, 0, 0, 63, 0), (3, 7, 4, 1, 63, -1)], 0, 0), (0, [(24, 10, 8, 0)])),
  (48, ([(1, 10, 0), (0, 0, 0), (0, 0, 0), (0, 0, 0), (0, 0, 0)], [], [(1, 4, 0, 0, 63, 0), (1, 7, 0, -1, 7, 0), (1, 13, 0, 0, 63, 0), (1, 10, 0, 1, 8, 0), (3, 7, 4, 1, 63, -1)], 0, 0), (21, [(24, 10, 8, 0)]))]
def kd_X10_dearest_4c18a7_5 : List (Nat × sf_D × sf_M) := [(51, ([(1, 10, 0), (0, 0, 0), (0, 0, 0), (0, 0, 0), (8, 0, 0)], [], [(1, 4, 0, 0, 63, 0), (1, 7, 0, -1, 7, 0), (1, 10, 0, 0, 8, 0), (3, 7, 4, 1, 63, -1)], 0, 0), (1, [])),
  (52, ([(1, 10, 0), (0, 0, 0), (0, 0, 0), (0, 0, 0), (8, 0, 0)], [(0, 0, 0)], [(1, 4, 0, 0, 63, 0), (1, 7, 0, -1, 7, 0), (1, 10, 0, 0, 8, 0), (1, 0, 0, -1, 7, 0), (3, 7, 4, 1, 63, -1), (2, 0, 7, 1, 0, 0)], 0, 0), (0, []))]
def kd_X10_dearest_4c18a7 : List (Nat × sf_D × sf_M) := kd_X10_dearest_4c18a7_0 ++ (kd_X10_dearest_4c18a7_1 ++ (kd_X10_dearest_4c18a7_2 ++ (kd_X10_dearest_4c18a7_3 ++ (kd_X10_dearest_4c18a7_4 ++ (kd_X10_dearest_4c18a7_5)))))
set_option maxRecDepth 100000 in
theorem kt_X10_dearest_4c18a7 : sf_chk [kq_X6_missersOf_49c0cb, kq_J6_bitCount_0f7a4_4956e8] kq_X10_dearest_4c18a7 5 kc_X10_dearest_4c18a7 kd_X10_dearest_4c18a7 = true := by decide +kernel
set_option maxRecDepth 100000 in
theorem kl_X10_dearest_4c18a7 : (kc_X10_dearest_4c18a7).map (fun c => (c.1, sf_den ([Z_X6_missersOf, Z_J6_bitCount_0f7a4] : List sf_X) c.2)) = L_X10_dearest Z_X6_missersOf Z_J6_bitCount_0f7a4 := rfl
theorem ct_X10_dearest_4c18a7 : sf_ct kq_X10_dearest_4c18a7 Z_X10_dearest := by
  have h := sf_meth (K := [kq_X6_missersOf_49c0cb, kq_J6_bitCount_0f7a4_4956e8]) (E := [Z_X6_missersOf, Z_J6_bitCount_0f7a4]) (k := kq_X10_dearest_4c18a7) (nL := 5) (C := kc_X10_dearest_4c18a7) (D := kd_X10_dearest_4c18a7) (fun m k hk => match m, hk with
    | 0, hk => (Option.some.inj hk) ▸ ct_X6_missersOf_49c0cb
    | 1, hk => (Option.some.inj hk) ▸ ct_J6_bitCount_0f7a4_4956e8
    | _ + 2, hk => (by cases hk)) kt_X10_dearest_4c18a7
  rw [kl_X10_dearest_4c18a7] at h
  exact h
end
