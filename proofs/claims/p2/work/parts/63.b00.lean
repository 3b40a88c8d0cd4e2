def kq_X6_attempt_6g : sf_Q := ([(1, 6, 0), (0, 0, 0), (0, 0, 0), (0, 0, 0)], [(1, 3, 0, 0, 2, 0), (1, 6, 0, 0, 11, 0), (1, 9, 0, 1, 250, 0)], some (0, 0, 0), [(1, 0, 0, 0, 2, 0)], [(149, 0, 11), (150, 0, 11), (153, 0, 7)])
set_option maxRecDepth 100000 in
set_option maxHeartbeats 4000000 in
theorem ct_X6_attempt_6g : sf_ct kq_X6_attempt_6g Z_X6_attempt := by
  intro t hp as H hl hj hpre
  match as, hl with
  | [v0, v1, v2, v3], _ =>
    obtain ⟨a0, rfl, ra0⟩ := bs_aR (hj 0 _ rfl)
    obtain rfl := ra0.eq H (p := 12) rfl
    obtain ⟨x1, rfl⟩ := bs_aI (hj 1 _ rfl)
    have rg1 := n_range x1
    obtain ⟨x2, rfl⟩ := bs_aI (hj 2 _ rfl)
    have rg2 := n_range x2
    obtain ⟨x3, rfl⟩ := bs_aI (hj 3 _ rfl)
    have rg3 := n_range x3
    obtain ⟨pl0, ph0⟩ := bs_s1 (x := x1.toInt) rfl (hpre _ (List.mem_of_getElem? (i := 0) rfl))
    obtain ⟨pl1, ph1⟩ := bs_s1 (x := x2.toInt) rfl (hpre _ (List.mem_of_getElem? (i := 1) rfl))
    obtain ⟨pl2, ph2⟩ := bs_s1 (x := x3.toInt) rfl (hpre _ (List.mem_of_getElem? (i := 2) rfl))
    clear hpre hj
    have F0 : sf_fr [(149, 0, 11), (150, 0, 11), (153, 0, 7)] t hp t hp := sf_fr_rf
    refine bs_fin (K := kq_X6_attempt_6g) (L := (L_X6_attempt Z_X6_whyNot Z_X6_perform)) (nL := 5) (Nat.le_of_ble_eq_true rfl) ?_
    refine (show Ev (ab_T (L_X6_attempt Z_X6_whyNot Z_X6_perform)) 0 ([some (.ref 12), some (.int x1), some (.int x2), some (.int x3), none], [], (0, 0), hp) _ from ?_)
    refine Ev.step (j := 1) (s' := ([some (.ref 12), some (.int x1), some (.int x2), some (.int x3), none], [.ref 12], (0, 0), hp)) rfl rfl ?_
    refine Ev.step (j := 2) (s' := ([some (.ref 12), some (.int x1), some (.int x2), some (.int x3), none], [.int x1, .ref 12], (0, 0), hp)) rfl rfl ?_
    refine Ev.step (j := 3) (s' := ([some (.ref 12), some (.int x1), some (.int x2), some (.int x3), none], [.int x2, .int x1, .ref 12], (0, 0), hp)) rfl rfl ?_
    refine Ev.step (j := 4) (s' := ([some (.ref 12), some (.int x1), some (.int x2), some (.int x3), none], [.int x3, .int x2, .int x1, .ref 12], (0, 0), hp)) rfl rfl ?_
    refine Ev.inl (L := (L_X6_whyNot Z_X6_isAlive)) (nL := 4) rfl (bs_rcv (g := 6) H (bs_R.uq H rfl) (by decide) rfl) rfl (Nat.le_of_ble_eq_true rfl) ?_
    refine (show Ev (ab_T (L_X6_whyNot Z_X6_isAlive)) 0 ([some (.ref 12), some (.int x1), some (.int x2), some (.int x3)], [], (0, 0), hp) _ from ?_)
    refine Ev.step (j := 1) (s' := ([some (.ref 12), some (.int x1), some (.int x2), some (.int x3)], [.int x1], (0, 0), hp)) rfl rfl ?_
    rcases (show x1.toInt = 0 ∨ x1.toInt = 1 ∨ x1.toInt = 2 by omega) with c1 | c1 | c1
    · refine bs_tab 0 rfl (by omega) rfl ?_
      refine Ev.step (j := 29) (s' := ([some (.ref 12), some (.int x1), some (.int x2), some (.int x3)], [.ref 12], (0, 0), hp)) rfl rfl ?_
      refine bs_getU (g := 6) (g1 := 149) rfl rfl H (bs_R.uq H rfl) (by decide) rfl rfl ?_
      refine Ev.step (j := 33) (s' := ([some (.ref 12), some (.int x1), some (.int x2), some (.int x3)], [.int x2, .ref 13], (0, 0), hp)) rfl rfl ?_
      refine bs_ld (g := 149) 0 11 (0, 999) rfl H (bs_R.uq H rfl) (by decide) rfl (by decide) (by decide) rfl (by decide) (by omega) (by omega) fun z2 hz2 lz2 gz2 => ?_
      dsimp only at lz2 gz2
      refine Ev.step (j := 35) (s' := ([some (.ref 12), some (.int x1), some (.int x2), some (.int x3)], [.int x3, .int z2], (0, 0), hp)) rfl rfl ?_
      refine bs_ge rfl (fun c3 => ?_) (fun c3 => ?_)
      · skip
        refine bs_lit (k := 0) rfl rfl fun z4 hz4 => ?_
        refine Ev.ret rfl rfl ?_
        refine (show Ev _ 7 ([some (.ref 12), some (.int x1), some (.int x2), some (.int x3), none], [.int z4], (0, 0), hp) _ from ?_)
        refine Ev.step (j := 9) (s' := ([some (.ref 12), some (.int x1), some (.int x2), some (.int x3), some (.int z4)], [], (0, 0), hp)) rfl rfl ?_
        refine Ev.step (j := 11) (s' := ([some (.ref 12), some (.int x1), some (.int x2), some (.int x3), some (.int z4)], [.int z4], (0, 0), hp)) rfl rfl ?_
        refine bs_ifne rfl (fun c5 => ?_) (fun c5 => ?_)
        · exfalso; omega
        · skip
          refine Ev.step (j := 15) (s' := ([some (.ref 12), some (.int x1), some (.int x2), some (.int x3), some (.int z4)], [.ref 12], (0, 0), hp)) rfl rfl ?_
          refine Ev.step (j := 16) (s' := ([some (.ref 12), some (.int x1), some (.int x2), some (.int x3), some (.int z4)], [.int x1, .ref 12], (0, 0), hp)) rfl rfl ?_
          refine Ev.step (j := 17) (s' := ([some (.ref 12), some (.int x1), some (.int x2), some (.int x3), some (.int z4)], [.int x2, .int x1, .ref 12], (0, 0), hp)) rfl rfl ?_
          refine Ev.step (j := 18) (s' := ([some (.ref 12), some (.int x1), some (.int x2), some (.int x3), some (.int z4)], [.int x3, .int x2, .int x1, .ref 12], (0, 0), hp)) rfl rfl ?_
          refine Ev.inl (L := L_X6_perform) (nL := 4) rfl (bs_rcv (g := 6) H (bs_R.uq H rfl) (by decide) rfl) rfl (Nat.le_of_ble_eq_true rfl) ?_
          refine (show Ev (ab_T L_X6_perform) 0 ([some (.ref 12), some (.int x1), some (.int x2), some (.int x3)], [], (0, 0), hp) _ from ?_)
          refine Ev.step (j := 1) (s' := ([some (.ref 12), some (.int x1), some (.int x2), some (.int x3)], [.int x1], (0, 0), hp)) rfl rfl ?_
          refine bs_lit (k := 3) rfl rfl fun z6 hz6 => ?_
          refine bs_ne rfl (fun c7 => ?_) (fun c7 => ?_)
          · skip
            refine Ev.step (j := 14) (s' := ([some (.ref 12), some (.int x1), some (.int x2), some (.int x3)], [.ref 12], (0, 0), hp)) rfl rfl ?_
            refine bs_getU (g := 6) (g1 := 149) rfl rfl H (bs_R.uq H rfl) (by decide) rfl rfl ?_
            refine Ev.step (j := 18) (s' := ([some (.ref 12), some (.int x1), some (.int x2), some (.int x3)], [.int x2, .ref 13], (0, 0), hp)) rfl rfl ?_
            refine Ev.step (j := 19) (s' := ([some (.ref 12), some (.int x1), some (.int x2), some (.int x3)], [.int x2, .ref 13, .int x2, .ref 13], (0, 0), hp)) rfl rfl ?_
            refine bs_ld (g := 149) 0 11 (0, 999) rfl H (bs_R.uq H rfl) (by decide) rfl (by decide) (by decide) rfl (by decide) (by omega) (by omega) fun z8 hz8 lz8 gz8 => ?_
            dsimp only at lz8 gz8
            have e9 : z8.toInt = z2.toInt := Option.some.inj (hz8.symm.trans hz2)
            refine Ev.step (j := 21) (s' := ([some (.ref 12), some (.int x1), some (.int x2), some (.int x3)], [.int x1, .int z8, .int x2, .ref 13], (0, 0), hp)) rfl rfl ?_
            refine bs_lit (k := 1) rfl rfl fun z10 hz10 => ?_
            refine bs_ne rfl (fun c11 => ?_) (fun c11 => ?_)
            · skip
              refine Ev.step (j := 30) (s' := ([some (.ref 12), some (.int x1), some (.int x2), some (.int x3)], [.int x3, .int z8, .int x2, .ref 13], (0, 0), hp)) rfl rfl ?_
              refine bs_neg rfl (by omega) fun z12 hz12 => ?_
              first | (refine bs_add rfl (by omega) (by omega) fun z13 hz13 => ?_) | (refine bs_any rfl fun z13 => ?_)
              have rz13 := n_range z13
              refine bs_st (W := [(149, 0, 11)]) (g := 149) 0 11 (0, 999) rfl H (bs_R.uq H rfl) (by decide) rfl rfl (by decide) rfl rfl (by omega) (by omega) (by dsimp only; omega) (by dsimp only; omega) fun hp14 Hhp14 fhp14 rhp14 ehp14 qhp14 nhp14 => ?_
              have Fhp14 := sf_fr_tr F0 (sf_fr_wider (W := [(149, 0, 11), (150, 0, 11), (153, 0, 7)]) rfl fhp14)
              refine Ev.step (j := 34) (s' := ([some (.ref 12), some (.int x1), some (.int x2), some (.int x3)], [.int x1], (0, 0), hp14)) rfl rfl ?_
              refine bs_ifne rfl (fun c15 => ?_) (fun c15 => ?_)
              · exfalso; omega
              · skip
                refine Ev.step (j := 38) (s' := ([some (.ref 12), some (.int x1), some (.int x2), some (.int x3)], [.ref 12], (0, 0), hp14)) rfl rfl ?_
                refine bs_getU (g := 6) (g1 := 150) rfl rfl Hhp14 (bs_R.uq Hhp14 rfl) (by decide) rfl rfl ?_
                refine Ev.step (j := 42) (s' := ([some (.ref 12), some (.int x1), some (.int x2), some (.int x3)], [.int x2, .ref 14], (0, 0), hp14)) rfl rfl ?_
                refine Ev.step (j := 43) (s' := ([some (.ref 12), some (.int x1), some (.int x2), some (.int x3)], [.int x2, .ref 14, .int x2, .ref 14], (0, 0), hp14)) rfl rfl ?_
                refine bs_ld (g := 150) 0 11 (-2147483648, 2147483647) rfl Hhp14 (bs_R.uq Hhp14 rfl) (by decide) rfl (by decide) (by decide) rfl (by decide) (by omega) (by omega) fun z16 hz16 lz16 gz16 => ?_
                dsimp only at lz16 gz16
                refine Ev.step (j := 45) (s' := ([some (.ref 12), some (.int x1), some (.int x2), some (.int x3)], [.int x3, .int z16, .int x2, .ref 14], (0, 0), hp14)) rfl rfl ?_
                first | (refine bs_add rfl (by omega) (by omega) fun z17 hz17 => ?_) | (refine bs_any rfl fun z17 => ?_)
                have rz17 := n_range z17
                refine bs_st (W := [(150, 0, 11)]) (g := 150) 0 11 (-2147483648, 2147483647) rfl Hhp14 (bs_R.uq Hhp14 rfl) (by decide) rfl rfl (by decide) rfl rfl (by omega) (by omega) (by dsimp only; omega) (by dsimp only; omega) fun hp18 Hhp18 fhp18 rhp18 ehp18 qhp18 nhp18 => ?_
                have Fhp18 := sf_fr_tr Fhp14 (sf_fr_wider (W := [(149, 0, 11), (150, 0, 11), (153, 0, 7)]) rfl fhp18)
                have h19 : sf_rd hp18 13 x2.toInt.toNat = some z13.toInt := (ehp18 _ _ (Or.inl (by decide))).trans rhp14
                refine Ev.step (j := 65) (s' := ([some (.ref 12), some (.int x1), some (.int x2), some (.int x3)], [], (0, 0), hp18)) rfl rfl ?_
                refine Ev.ret rfl rfl ?_
                refine (show Ev _ 21 ([some (.ref 12), some (.int x1), some (.int x2), some (.int x3), some (.int z4)], [], (0, 0), hp18) _ from ?_)
                refine Ev.step (j := 23) (s' := ([some (.ref 12), some (.int x1), some (.int x2), some (.int x3), some (.int z4)], [.int z4], (0, 0), hp18)) rfl rfl ?_
                exact Ev.ret rfl rfl ⟨t, Hhp18, Fhp18, bs_an0, sf_S_cons (sf_s1 (x := z4.toInt) rfl (by omega) (by omega)) (sf_S_nil)⟩
            · exfalso; omega
          · exfalso; omega
      · skip
        refine bs_lit (k := 1) rfl rfl fun z20 hz20 => ?_
        refine Ev.step (j := 43) (s' := ([some (.ref 12), some (.int x1), some (.int x2), some (.int x3)], [.int z20], (0, 0), hp)) rfl rfl ?_
        refine Ev.ret rfl rfl ?_
        refine (show Ev _ 7 ([some (.ref 12), some (.int x1), some (.int x2), some (.int x3), none], [.int z20], (0, 0), hp) _ from ?_)
        refine Ev.step (j := 9) (s' := ([some (.ref 12), some (.int x1), some (.int x2), some (.int x3), some (.int z20)], [], (0, 0), hp)) rfl rfl ?_
        refine Ev.step (j := 11) (s' := ([some (.ref 12), some (.int x1), some (.int x2), some (.int x3), some (.int z20)], [.int z20], (0, 0), hp)) rfl rfl ?_
        refine bs_ifne rfl (fun c21 => ?_) (fun c21 => ?_)
        · skip
          refine Ev.step (j := 23) (s' := ([some (.ref 12), some (.int x1), some (.int x2), some (.int x3), some (.int z20)], [.int z20], (0, 0), hp)) rfl rfl ?_
          exact Ev.ret rfl rfl ⟨t, H, F0, bs_an0, sf_S_cons (sf_s1 (x := z20.toInt) rfl (by omega) (by omega)) (sf_S_nil)⟩
        · exfalso; omega
    · refine bs_tab 1 rfl (by omega) rfl ?_
      refine Ev.step (j := 45) (s' := ([some (.ref 12), some (.int x1), some (.int x2), some (.int x3)], [.ref 12], (0, 0), hp)) rfl rfl ?_
      refine bs_getU (g := 6) (g1 := 150) rfl rfl H (bs_R.uq H rfl) (by decide) rfl rfl ?_
      refine Ev.step (j := 49) (s' := ([some (.ref 12), some (.int x1), some (.int x2), some (.int x3)], [.int x2, .ref 14], (0, 0), hp)) rfl rfl ?_
      refine bs_ld (g := 150) 0 11 (-2147483648, 2147483647) rfl H (bs_R.uq H rfl) (by decide) rfl (by decide) (by decide) rfl (by decide) (by omega) (by omega) fun z22 hz22 lz22 gz22 => ?_
      dsimp only at lz22 gz22
      refine Ev.step (j := 51) (s' := ([some (.ref 12), some (.int x1), some (.int x2), some (.int x3)], [.int x3, .int z22], (0, 0), hp)) rfl rfl ?_
      refine bs_ge rfl (fun c23 => ?_) (fun c23 => ?_)
      · skip
        refine Ev.step (j := 59) (s' := ([some (.ref 12), some (.int x1), some (.int x2), some (.int x3)], [.ref 12], (0, 0), hp)) rfl rfl ?_
        refine bs_getU (g := 6) (g1 := 149) rfl rfl H (bs_R.uq H rfl) (by decide) rfl rfl ?_
        refine Ev.step (j := 63) (s' := ([some (.ref 12), some (.int x1), some (.int x2), some (.int x3)], [.int x2, .ref 13], (0, 0), hp)) rfl rfl ?_
        refine bs_ld (g := 149) 0 11 (0, 999) rfl H (bs_R.uq H rfl) (by decide) rfl (by decide) (by decide) rfl (by decide) (by omega) (by omega) fun z24 hz24 lz24 gz24 => ?_
        dsimp only at lz24 gz24
        refine Ev.step (j := 65) (s' := ([some (.ref 12), some (.int x1), some (.int x2), some (.int x3)], [.int x3, .int z24], (0, 0), hp)) rfl rfl ?_
        first | (refine bs_add rfl (by omega) (by omega) fun z25 hz25 => ?_) | (refine bs_any rfl fun z25 => ?_)
        have rz25 := n_range z25
        refine bs_lit (k := 999) rfl rfl fun z26 hz26 => ?_
        refine bs_le rfl (fun c27 => ?_) (fun c27 => ?_)
        · skip
          refine bs_lit (k := 0) rfl rfl fun z28 hz28 => ?_
          refine Ev.ret rfl rfl ?_
          refine (show Ev _ 7 ([some (.ref 12), some (.int x1), some (.int x2), some (.int x3), none], [.int z28], (0, 0), hp) _ from ?_)
          refine Ev.step (j := 9) (s' := ([some (.ref 12), some (.int x1), some (.int x2), some (.int x3), some (.int z28)], [], (0, 0), hp)) rfl rfl ?_
          refine Ev.step (j := 11) (s' := ([some (.ref 12), some (.int x1), some (.int x2), some (.int x3), some (.int z28)], [.int z28], (0, 0), hp)) rfl rfl ?_
          refine bs_ifne rfl (fun c29 => ?_) (fun c29 => ?_)
          · exfalso; omega
          · skip
            refine Ev.step (j := 15) (s' := ([some (.ref 12), some (.int x1), some (.int x2), some (.int x3), some (.int z28)], [.ref 12], (0, 0), hp)) rfl rfl ?_
            refine Ev.step (j := 16) (s' := ([some (.ref 12), some (.int x1), some (.int x2), some (.int x3), some (.int z28)], [.int x1, .ref 12], (0, 0), hp)) rfl rfl ?_
            refine Ev.step (j := 17) (s' := ([some (.ref 12), some (.int x1), some (.int x2), some (.int x3), some (.int z28)], [.int x2, .int x1, .ref 12], (0, 0), hp)) rfl rfl ?_
            refine Ev.step (j := 18) (s' := ([some (.ref 12), some (.int x1), some (.int x2), some (.int x3), some (.int z28)], [.int x3, .int x2, .int x1, .ref 12], (0, 0), hp)) rfl rfl ?_
            refine Ev.inl (L := L_X6_perform) (nL := 4) rfl (bs_rcv (g := 6) H (bs_R.uq H rfl) (by decide) rfl) rfl (Nat.le_of_ble_eq_true rfl) ?_
            refine (show Ev (ab_T L_X6_perform) 0 ([some (.ref 12), some (.int x1), some (.int x2), some (.int x3)], [], (0, 0), hp) _ from ?_)
            refine Ev.step (j := 1) (s' := ([some (.ref 12), some (.int x1), some (.int x2), some (.int x3)], [.int x1], (0, 0), hp)) rfl rfl ?_
            refine bs_lit (k := 3) rfl rfl fun z30 hz30 => ?_
            refine bs_ne rfl (fun c31 => ?_) (fun c31 => ?_)
            · skip
              refine Ev.step (j := 14) (s' := ([some (.ref 12), some (.int x1), some (.int x2), some (.int x3)], [.ref 12], (0, 0), hp)) rfl rfl ?_
              refine bs_getU (g := 6) (g1 := 149) rfl rfl H (bs_R.uq H rfl) (by decide) rfl rfl ?_
              refine Ev.step (j := 18) (s' := ([some (.ref 12), some (.int x1), some (.int x2), some (.int x3)], [.int x2, .ref 13], (0, 0), hp)) rfl rfl ?_
              refine Ev.step (j := 19) (s' := ([some (.ref 12), some (.int x1), some (.int x2), some (.int x3)], [.int x2, .ref 13, .int x2, .ref 13], (0, 0), hp)) rfl rfl ?_
              refine bs_ld (g := 149) 0 11 (0, 999) rfl H (bs_R.uq H rfl) (by decide) rfl (by decide) (by decide) rfl (by decide) (by omega) (by omega) fun z32 hz32 lz32 gz32 => ?_
              dsimp only at lz32 gz32
              have e33 : z32.toInt = z24.toInt := Option.some.inj (hz32.symm.trans hz24)
              refine Ev.step (j := 21) (s' := ([some (.ref 12), some (.int x1), some (.int x2), some (.int x3)], [.int x1, .int z32, .int x2, .ref 13], (0, 0), hp)) rfl rfl ?_
              refine bs_lit (k := 1) rfl rfl fun z34 hz34 => ?_
              refine bs_ne rfl (fun c35 => ?_) (fun c35 => ?_)
              · exfalso; omega
              · skip
                refine Ev.step (j := 26) (s' := ([some (.ref 12), some (.int x1), some (.int x2), some (.int x3)], [.int x3, .int z32, .int x2, .ref 13], (0, 0), hp)) rfl rfl ?_
                refine Ev.step (j := 31) (s' := ([some (.ref 12), some (.int x1), some (.int x2), some (.int x3)], [.int x3, .int z32, .int x2, .ref 13], (0, 0), hp)) rfl rfl ?_
                first | (refine bs_add rfl (by omega) (by omega) fun z36 hz36 => ?_) | (refine bs_any rfl fun z36 => ?_)
                have rz36 := n_range z36
                refine bs_st (W := [(149, 0, 11)]) (g := 149) 0 11 (0, 999) rfl H (bs_R.uq H rfl) (by decide) rfl rfl (by decide) rfl rfl (by omega) (by omega) (by dsimp only; omega) (by dsimp only; omega) fun hp37 Hhp37 fhp37 rhp37 ehp37 qhp37 nhp37 => ?_
                have Fhp37 := sf_fr_tr F0 (sf_fr_wider (W := [(149, 0, 11), (150, 0, 11), (153, 0, 7)]) rfl fhp37)
                have h38 : sf_rd hp37 14 x2.toInt.toNat = some z22.toInt := (ehp37 _ _ (Or.inl (by decide))).trans hz22
                refine Ev.step (j := 34) (s' := ([some (.ref 12), some (.int x1), some (.int x2), some (.int x3)], [.int x1], (0, 0), hp37)) rfl rfl ?_
                refine bs_ifne rfl (fun c39 => ?_) (fun c39 => ?_)
                · skip
                  refine Ev.step (j := 51) (s' := ([some (.ref 12), some (.int x1), some (.int x2), some (.int x3)], [.int x1], (0, 0), hp37)) rfl rfl ?_
                  refine bs_lit (k := 1) rfl rfl fun z40 hz40 => ?_
                  refine bs_ne rfl (fun c41 => ?_) (fun c41 => ?_)
                  · exfalso; omega
                  · skip
                    refine Ev.step (j := 56) (s' := ([some (.ref 12), some (.int x1), some (.int x2), some (.int x3)], [.ref 12], (0, 0), hp37)) rfl rfl ?_
                    refine bs_getU (g := 6) (g1 := 150) rfl rfl Hhp37 (bs_R.uq Hhp37 rfl) (by decide) rfl rfl ?_
                    refine Ev.step (j := 60) (s' := ([some (.ref 12), some (.int x1), some (.int x2), some (.int x3)], [.int x2, .ref 14], (0, 0), hp37)) rfl rfl ?_
                    refine Ev.step (j := 61) (s' := ([some (.ref 12), some (.int x1), some (.int x2), some (.int x3)], [.int x2, .ref 14, .int x2, .ref 14], (0, 0), hp37)) rfl rfl ?_
                    refine bs_ld (g := 150) 0 11 (-2147483648, 2147483647) rfl Hhp37 (bs_R.uq Hhp37 rfl) (by decide) rfl (by decide) (by decide) rfl (by decide) (by omega) (by omega) fun z42 hz42 lz42 gz42 => ?_
                    dsimp only at lz42 gz42
                    have e43 : z42.toInt = z22.toInt := Option.some.inj (hz42.symm.trans h38)
                    refine Ev.step (j := 63) (s' := ([some (.ref 12), some (.int x1), some (.int x2), some (.int x3)], [.int x3, .int z42, .int x2, .ref 14], (0, 0), hp37)) rfl rfl ?_
                    first | (refine bs_sub rfl (by omega) (by omega) fun z44 hz44 => ?_) | (refine bs_any rfl fun z44 => ?_)
                    have rz44 := n_range z44
                    refine bs_st (W := [(150, 0, 11)]) (g := 150) 0 11 (-2147483648, 2147483647) rfl Hhp37 (bs_R.uq Hhp37 rfl) (by decide) rfl rfl (by decide) rfl rfl (by omega) (by omega) (by dsimp only; omega) (by dsimp only; omega) fun hp45 Hhp45 fhp45 rhp45 ehp45 qhp45 nhp45 => ?_
                    have Fhp45 := sf_fr_tr Fhp37 (sf_fr_wider (W := [(149, 0, 11), (150, 0, 11), (153, 0, 7)]) rfl fhp45)
                    have h46 : sf_rd hp45 13 x2.toInt.toNat = some z36.toInt := (ehp45 _ _ (Or.inl (by decide))).trans rhp37
                    refine Ev.ret rfl rfl ?_
                    refine (show Ev _ 21 ([some (.ref 12), some (.int x1), some (.int x2), some (.int x3), some (.int z28)], [], (0, 0), hp45) _ from ?_)
                    refine Ev.step (j := 23) (s' := ([some (.ref 12), some (.int x1), some (.int x2), some (.int x3), some (.int z28)], [.int z28], (0, 0), hp45)) rfl rfl ?_
                    exact Ev.ret rfl rfl ⟨t, Hhp45, Fhp45, bs_an0, sf_S_cons (sf_s1 (x := z28.toInt) rfl (by omega) (by omega)) (sf_S_nil)⟩
                · exfalso; omega
            · exfalso; omega
        · skip
          refine bs_lit (k := 2) rfl rfl fun z47 hz47 => ?_
          refine Ev.step (j := 77) (s' := ([some (.ref 12), some (.int x1), some (.int x2), some (.int x3)], [.int z47], (0, 0), hp)) rfl rfl ?_
          refine Ev.ret rfl rfl ?_
          refine (show Ev _ 7 ([some (.ref 12), some (.int x1), some (.int x2), some (.int x3), none], [.int z47], (0, 0), hp) _ from ?_)
          refine Ev.step (j := 9) (s' := ([some (.ref 12), some (.int x1), some (.int x2), some (.int x3), some (.int z47)], [], (0, 0), hp)) rfl rfl ?_
          refine Ev.step (j := 11) (s' := ([some (.ref 12), some (.int x1), some (.int x2), some (.int x3), some (.int z47)], [.int z47], (0, 0), hp)) rfl rfl ?_
          refine bs_ifne rfl (fun c48 => ?_) (fun c48 => ?_)
          · skip
            refine Ev.step (j := 23) (s' := ([some (.ref 12), some (.int x1), some (.int x2), some (.int x3), some (.int z47)], [.int z47], (0, 0), hp)) rfl rfl ?_
            exact Ev.ret rfl rfl ⟨t, H, F0, bs_an0, sf_S_cons (sf_s1 (x := z47.toInt) rfl (by omega) (by omega)) (sf_S_nil)⟩
          · exfalso; omega
      · skip
        refine bs_lit (k := 1) rfl rfl fun z49 hz49 => ?_
        refine Ev.step (j := 77) (s' := ([some (.ref 12), some (.int x1), some (.int x2), some (.int x3)], [.int z49], (0, 0), hp)) rfl rfl ?_
        refine Ev.ret rfl rfl ?_
        refine (show Ev _ 7 ([some (.ref 12), some (.int x1), some (.int x2), some (.int x3), none], [.int z49], (0, 0), hp) _ from ?_)
        refine Ev.step (j := 9) (s' := ([some (.ref 12), some (.int x1), some (.int x2), some (.int x3), some (.int z49)], [], (0, 0), hp)) rfl rfl ?_
        refine Ev.step (j := 11) (s' := ([some (.ref 12), some (.int x1), some (.int x2), some (.int x3), some (.int z49)], [.int z49], (0, 0), hp)) rfl rfl ?_
        refine bs_ifne rfl (fun c50 => ?_) (fun c50 => ?_)
        · skip
          refine Ev.step (j := 23) (s' := ([some (.ref 12), some (.int x1), some (.int x2), some (.int x3), some (.int z49)], [.int z49], (0, 0), hp)) rfl rfl ?_
          exact Ev.ret rfl rfl ⟨t, H, F0, bs_an0, sf_S_cons (sf_s1 (x := z49.toInt) rfl (by omega) (by omega)) (sf_S_nil)⟩
        · exfalso; omega
    · refine bs_tab 2 rfl (by omega) rfl ?_
      refine Ev.step (j := 79) (s' := ([some (.ref 12), some (.int x1), some (.int x2), some (.int x3)], [.ref 12], (0, 0), hp)) rfl rfl ?_
      refine bs_getU (g := 6) (g1 := 149) rfl rfl H (bs_R.uq H rfl) (by decide) rfl rfl ?_
      refine Ev.step (j := 83) (s' := ([some (.ref 12), some (.int x1), some (.int x2), some (.int x3)], [.int x2, .ref 13], (0, 0), hp)) rfl rfl ?_
      refine bs_ld (g := 149) 0 11 (0, 999) rfl H (bs_R.uq H rfl) (by decide) rfl (by decide) (by decide) rfl (by decide) (by omega) (by omega) fun z51 hz51 lz51 gz51 => ?_
      dsimp only at lz51 gz51
      refine Ev.step (j := 85) (s' := ([some (.ref 12), some (.int x1), some (.int x2), some (.int x3)], [.int x3, .int z51], (0, 0), hp)) rfl rfl ?_
      refine bs_ge rfl (fun c52 => ?_) (fun c52 => ?_)
      · skip
        refine bs_lit (k := 0) rfl rfl fun z53 hz53 => ?_
        refine Ev.ret rfl rfl ?_
        refine (show Ev _ 7 ([some (.ref 12), some (.int x1), some (.int x2), some (.int x3), none], [.int z53], (0, 0), hp) _ from ?_)
        refine Ev.step (j := 9) (s' := ([some (.ref 12), some (.int x1), some (.int x2), some (.int x3), some (.int z53)], [], (0, 0), hp)) rfl rfl ?_
        refine Ev.step (j := 11) (s' := ([some (.ref 12), some (.int x1), some (.int x2), some (.int x3), some (.int z53)], [.int z53], (0, 0), hp)) rfl rfl ?_
        refine bs_ifne rfl (fun c54 => ?_) (fun c54 => ?_)
        · exfalso; omega
        · skip
          refine Ev.step (j := 15) (s' := ([some (.ref 12), some (.int x1), some (.int x2), some (.int x3), some (.int z53)], [.ref 12], (0, 0), hp)) rfl rfl ?_
          refine Ev.step (j := 16) (s' := ([some (.ref 12), some (.int x1), some (.int x2), some (.int x3), some (.int z53)], [.int x1, .ref 12], (0, 0), hp)) rfl rfl ?_
          refine Ev.step (j := 17) (s' := ([some (.ref 12), some (.int x1), some (.int x2), some (.int x3), some (.int z53)], [.int x2, .int x1, .ref 12], (0, 0), hp)) rfl rfl ?_
          refine Ev.step (j := 18) (s' := ([some (.ref 12), some (.int x1), some (.int x2), some (.int x3), some (.int z53)], [.int x3, .int x2, .int x1, .ref 12], (0, 0), hp)) rfl rfl ?_
          refine Ev.inl (L := L_X6_perform) (nL := 4) rfl (bs_rcv (g := 6) H (bs_R.uq H rfl) (by decide) rfl) rfl (Nat.le_of_ble_eq_true rfl) ?_
          refine (show Ev (ab_T L_X6_perform) 0 ([some (.ref 12), some (.int x1), some (.int x2), some (.int x3)], [], (0, 0), hp) _ from ?_)
          refine Ev.step (j := 1) (s' := ([some (.ref 12), some (.int x1), some (.int x2), some (.int x3)], [.int x1], (0, 0), hp)) rfl rfl ?_
          refine bs_lit (k := 3) rfl rfl fun z55 hz55 => ?_
          refine bs_ne rfl (fun c56 => ?_) (fun c56 => ?_)
          · skip
            refine Ev.step (j := 14) (s' := ([some (.ref 12), some (.int x1), some (.int x2), some (.int x3)], [.ref 12], (0, 0), hp)) rfl rfl ?_
            refine bs_getU (g := 6) (g1 := 149) rfl rfl H (bs_R.uq H rfl) (by decide) rfl rfl ?_
            refine Ev.step (j := 18) (s' := ([some (.ref 12), some (.int x1), some (.int x2), some (.int x3)], [.int x2, .ref 13], (0, 0), hp)) rfl rfl ?_
            refine Ev.step (j := 19) (s' := ([some (.ref 12), some (.int x1), some (.int x2), some (.int x3)], [.int x2, .ref 13, .int x2, .ref 13], (0, 0), hp)) rfl rfl ?_
            refine bs_ld (g := 149) 0 11 (0, 999) rfl H (bs_R.uq H rfl) (by decide) rfl (by decide) (by decide) rfl (by decide) (by omega) (by omega) fun z57 hz57 lz57 gz57 => ?_
            dsimp only at lz57 gz57
            have e58 : z57.toInt = z51.toInt := Option.some.inj (hz57.symm.trans hz51)
            refine Ev.step (j := 21) (s' := ([some (.ref 12), some (.int x1), some (.int x2), some (.int x3)], [.int x1, .int z57, .int x2, .ref 13], (0, 0), hp)) rfl rfl ?_
            refine bs_lit (k := 1) rfl rfl fun z59 hz59 => ?_
            refine bs_ne rfl (fun c60 => ?_) (fun c60 => ?_)
            · skip
              refine Ev.step (j := 30) (s' := ([some (.ref 12), some (.int x1), some (.int x2), some (.int x3)], [.int x3, .int z57, .int x2, .ref 13], (0, 0), hp)) rfl rfl ?_
              refine bs_neg rfl (by omega) fun z61 hz61 => ?_
              first | (refine bs_add rfl (by omega) (by omega) fun z62 hz62 => ?_) | (refine bs_any rfl fun z62 => ?_)
              have rz62 := n_range z62
              refine bs_st (W := [(149, 0, 11)]) (g := 149) 0 11 (0, 999) rfl H (bs_R.uq H rfl) (by decide) rfl rfl (by decide) rfl rfl (by omega) (by omega) (by dsimp only; omega) (by dsimp only; omega) fun hp63 Hhp63 fhp63 rhp63 ehp63 qhp63 nhp63 => ?_
              have Fhp63 := sf_fr_tr F0 (sf_fr_wider (W := [(149, 0, 11), (150, 0, 11), (153, 0, 7)]) rfl fhp63)
              refine Ev.step (j := 34) (s' := ([some (.ref 12), some (.int x1), some (.int x2), some (.int x3)], [.int x1], (0, 0), hp63)) rfl rfl ?_
              refine bs_ifne rfl (fun c64 => ?_) (fun c64 => ?_)
              · skip
                refine Ev.step (j := 51) (s' := ([some (.ref 12), some (.int x1), some (.int x2), some (.int x3)], [.int x1], (0, 0), hp63)) rfl rfl ?_
                refine bs_lit (k := 1) rfl rfl fun z65 hz65 => ?_
                refine bs_ne rfl (fun c66 => ?_) (fun c66 => ?_)
                · skip
                  refine Ev.ret rfl rfl ?_
                  refine (show Ev _ 21 ([some (.ref 12), some (.int x1), some (.int x2), some (.int x3), some (.int z53)], [], (0, 0), hp63) _ from ?_)
                  refine Ev.step (j := 23) (s' := ([some (.ref 12), some (.int x1), some (.int x2), some (.int x3), some (.int z53)], [.int z53], (0, 0), hp63)) rfl rfl ?_
                  exact Ev.ret rfl rfl ⟨t, Hhp63, Fhp63, bs_an0, sf_S_cons (sf_s1 (x := z53.toInt) rfl (by omega) (by omega)) (sf_S_nil)⟩
                · exfalso; omega
              · exfalso; omega
            · exfalso; omega
          · exfalso; omega
      · skip
        refine bs_lit (k := 1) rfl rfl fun z67 hz67 => ?_
        refine Ev.step (j := 93) (s' := ([some (.ref 12), some (.int x1), some (.int x2), some (.int x3)], [.int z67], (0, 0), hp)) rfl rfl ?_
        refine Ev.ret rfl rfl ?_
        refine (show Ev _ 7 ([some (.ref 12), some (.int x1), some (.int x2), some (.int x3), none], [.int z67], (0, 0), hp) _ from ?_)
        refine Ev.step (j := 9) (s' := ([some (.ref 12), some (.int x1), some (.int x2), some (.int x3), some (.int z67)], [], (0, 0), hp)) rfl rfl ?_
        refine Ev.step (j := 11) (s' := ([some (.ref 12), some (.int x1), some (.int x2), some (.int x3), some (.int z67)], [.int z67], (0, 0), hp)) rfl rfl ?_
        refine bs_ifne rfl (fun c68 => ?_) (fun c68 => ?_)
        · skip
          refine Ev.step (j := 23) (s' := ([some (.ref 12), some (.int x1), some (.int x2), some (.int x3), some (.int z67)], [.int z67], (0, 0), hp)) rfl rfl ?_
          exact Ev.ret rfl rfl ⟨t, H, F0, bs_an0, sf_S_cons (sf_s1 (x := z67.toInt) rfl (by omega) (by omega)) (sf_S_nil)⟩
        · exfalso; omega
def kq_X6_attempt_6d : sf_Q := ([(1, 6, 0), (0, 0, 0), (0, 0, 0), (0, 0, 0)], [(1, 3, 0, 3, 3, 0), (1, 6, 0, 0, 7, 0), (1, 9, 0, 0, 0, 0)], some (0, 0, 0), [(1, 0, 0, 0, 2, 0)], [(149, 0, 11), (150, 0, 11), (153, 0, 7)])
set_option maxRecDepth 100000 in
set_option maxHeartbeats 4000000 in
theorem ct_X6_attempt_6d : sf_ct kq_X6_attempt_6d Z_X6_attempt := by
  intro t hp as H hl hj hpre
  match as, hl with
  | [v0, v1, v2, v3], _ =>
    obtain ⟨a0, rfl, ra0⟩ := bs_aR (hj 0 _ rfl)
    obtain rfl := ra0.eq H (p := 12) rfl
    obtain ⟨x1, rfl⟩ := bs_aI (hj 1 _ rfl)
    have rg1 := n_range x1
    obtain ⟨x2, rfl⟩ := bs_aI (hj 2 _ rfl)
    have rg2 := n_range x2
    obtain ⟨x3, rfl⟩ := bs_aI (hj 3 _ rfl)
    have rg3 := n_range x3
    obtain ⟨pl0, ph0⟩ := bs_s1 (x := x1.toInt) rfl (hpre _ (List.mem_of_getElem? (i := 0) rfl))
    obtain ⟨pl1, ph1⟩ := bs_s1 (x := x2.toInt) rfl (hpre _ (List.mem_of_getElem? (i := 1) rfl))
    obtain ⟨pl2, ph2⟩ := bs_s1 (x := x3.toInt) rfl (hpre _ (List.mem_of_getElem? (i := 2) rfl))
    clear hpre hj
    have F0 : sf_fr [(149, 0, 11), (150, 0, 11), (153, 0, 7)] t hp t hp := sf_fr_rf
    refine bs_fin (K := kq_X6_attempt_6d) (L := (L_X6_attempt Z_X6_whyNot Z_X6_perform)) (nL := 5) (Nat.le_of_ble_eq_true rfl) ?_
    refine (show Ev (ab_T (L_X6_attempt Z_X6_whyNot Z_X6_perform)) 0 ([some (.ref 12), some (.int x1), some (.int x2), some (.int x3), none], [], (0, 0), hp) _ from ?_)
    refine Ev.step (j := 1) (s' := ([some (.ref 12), some (.int x1), some (.int x2), some (.int x3), none], [.ref 12], (0, 0), hp)) rfl rfl ?_
    refine Ev.step (j := 2) (s' := ([some (.ref 12), some (.int x1), some (.int x2), some (.int x3), none], [.int x1, .ref 12], (0, 0), hp)) rfl rfl ?_
    refine Ev.step (j := 3) (s' := ([some (.ref 12), some (.int x1), some (.int x2), some (.int x3), none], [.int x2, .int x1, .ref 12], (0, 0), hp)) rfl rfl ?_
    refine Ev.step (j := 4) (s' := ([some (.ref 12), some (.int x1), some (.int x2), some (.int x3), none], [.int x3, .int x2, .int x1, .ref 12], (0, 0), hp)) rfl rfl ?_
    refine Ev.inl (L := (L_X6_whyNot Z_X6_isAlive)) (nL := 4) rfl (bs_rcv (g := 6) H (bs_R.uq H rfl) (by decide) rfl) rfl (Nat.le_of_ble_eq_true rfl) ?_
    refine (show Ev (ab_T (L_X6_whyNot Z_X6_isAlive)) 0 ([some (.ref 12), some (.int x1), some (.int x2), some (.int x3)], [], (0, 0), hp) _ from ?_)
    refine Ev.step (j := 1) (s' := ([some (.ref 12), some (.int x1), some (.int x2), some (.int x3)], [.int x1], (0, 0), hp)) rfl rfl ?_
    rcases (show x1.toInt = 3 by omega) with c1
    · refine bs_tabD rfl (by show _ ∨ _ + ((3 : Nat) : Int) ≤ _; omega) ?_
      refine Ev.step (j := 95) (s' := ([some (.ref 12), some (.int x1), some (.int x2), some (.int x3)], [.ref 12], (0, 0), hp)) rfl rfl ?_
      refine Ev.step (j := 96) (s' := ([some (.ref 12), some (.int x1), some (.int x2), some (.int x3)], [.int x2, .ref 12], (0, 0), hp)) rfl rfl ?_
      refine Ev.inl (L := L_X6_isAlive) (nL := 2) rfl (bs_rcv (g := 6) H (bs_R.uq H rfl) (by decide) rfl) rfl (Nat.le_of_ble_eq_true rfl) ?_
      refine (show Ev (ab_T L_X6_isAlive) 0 ([some (.ref 12), some (.int x2)], [], (0, 0), hp) _ from ?_)
      refine Ev.step (j := 1) (s' := ([some (.ref 12), some (.int x2)], [.ref 12], (0, 0), hp)) rfl rfl ?_
      refine bs_getU (g := 6) (g1 := 153) rfl rfl H (bs_R.uq H rfl) (by decide) rfl rfl ?_
      refine Ev.step (j := 5) (s' := ([some (.ref 12), some (.int x2)], [.int x2, .ref 17], (0, 0), hp)) rfl rfl ?_
      refine bs_ld (g := 153) 0 7 (-2147483648, 2147483647) rfl H (bs_R.uq H rfl) (by decide) rfl (by decide) (by decide) rfl (by decide) (by omega) (by omega) fun z2 hz2 lz2 gz2 => ?_
      dsimp only at lz2 gz2
      refine bs_lit (k := -1) rfl rfl fun z3 hz3 => ?_
      refine bs_eq rfl (fun c4 => ?_) (fun c4 => ?_)
      · skip
        have c5 : z2.toInt = -1 := by omega
        refine bs_lit (k := 0) rfl rfl fun z6 hz6 => ?_
        refine bs_zret rfl rfl (by omega) (by omega) ?_
        refine (show Ev _ 99 ([some (.ref 12), some (.int x1), some (.int x2), some (.int x3)], [.int z6], (0, 0), hp) _ from ?_)
        refine bs_ifeq rfl (fun c7 => ?_) (fun c7 => ?_)
        · skip
          refine bs_lit (k := 1) rfl rfl fun z8 hz8 => ?_
          refine Ev.ret rfl rfl ?_
          refine (show Ev _ 7 ([some (.ref 12), some (.int x1), some (.int x2), some (.int x3), none], [.int z8], (0, 0), hp) _ from ?_)
          refine Ev.step (j := 9) (s' := ([some (.ref 12), some (.int x1), some (.int x2), some (.int x3), some (.int z8)], [], (0, 0), hp)) rfl rfl ?_
          refine Ev.step (j := 11) (s' := ([some (.ref 12), some (.int x1), some (.int x2), some (.int x3), some (.int z8)], [.int z8], (0, 0), hp)) rfl rfl ?_
          refine bs_ifne rfl (fun c9 => ?_) (fun c9 => ?_)
          · skip
            refine Ev.step (j := 23) (s' := ([some (.ref 12), some (.int x1), some (.int x2), some (.int x3), some (.int z8)], [.int z8], (0, 0), hp)) rfl rfl ?_
            exact Ev.ret rfl rfl ⟨t, H, F0, bs_an0, sf_S_cons (sf_s1 (x := z8.toInt) rfl (by omega) (by omega)) (sf_S_nil)⟩
          · exfalso; omega
        · exfalso; omega
      · skip
        refine bs_lit (k := 1) rfl rfl fun z10 hz10 => ?_
        refine Ev.step (j := 15) (s' := ([some (.ref 12), some (.int x2)], [.int z10], (0, 0), hp)) rfl rfl ?_
        refine bs_zret rfl rfl (by omega) (by omega) ?_
        refine (show Ev _ 99 ([some (.ref 12), some (.int x1), some (.int x2), some (.int x3)], [.int z10], (0, 0), hp) _ from ?_)
        refine bs_ifeq rfl (fun c11 => ?_) (fun c11 => ?_)
        · exfalso; omega
        · skip
          refine bs_lit (k := 0) rfl rfl fun z12 hz12 => ?_
          refine Ev.step (j := 107) (s' := ([some (.ref 12), some (.int x1), some (.int x2), some (.int x3)], [.int z12], (0, 0), hp)) rfl rfl ?_
          refine Ev.ret rfl rfl ?_
          refine (show Ev _ 7 ([some (.ref 12), some (.int x1), some (.int x2), some (.int x3), none], [.int z12], (0, 0), hp) _ from ?_)
          refine Ev.step (j := 9) (s' := ([some (.ref 12), some (.int x1), some (.int x2), some (.int x3), some (.int z12)], [], (0, 0), hp)) rfl rfl ?_
          refine Ev.step (j := 11) (s' := ([some (.ref 12), some (.int x1), some (.int x2), some (.int x3), some (.int z12)], [.int z12], (0, 0), hp)) rfl rfl ?_
          refine bs_ifne rfl (fun c13 => ?_) (fun c13 => ?_)
          · exfalso; omega
          · skip
            refine Ev.step (j := 15) (s' := ([some (.ref 12), some (.int x1), some (.int x2), some (.int x3), some (.int z12)], [.ref 12], (0, 0), hp)) rfl rfl ?_
            refine Ev.step (j := 16) (s' := ([some (.ref 12), some (.int x1), some (.int x2), some (.int x3), some (.int z12)], [.int x1, .ref 12], (0, 0), hp)) rfl rfl ?_
            refine Ev.step (j := 17) (s' := ([some (.ref 12), some (.int x1), some (.int x2), some (.int x3), some (.int z12)], [.int x2, .int x1, .ref 12], (0, 0), hp)) rfl rfl ?_
            refine Ev.step (j := 18) (s' := ([some (.ref 12), some (.int x1), some (.int x2), some (.int x3), some (.int z12)], [.int x3, .int x2, .int x1, .ref 12], (0, 0), hp)) rfl rfl ?_
            refine Ev.inl (L := L_X6_perform) (nL := 4) rfl (bs_rcv (g := 6) H (bs_R.uq H rfl) (by decide) rfl) rfl (Nat.le_of_ble_eq_true rfl) ?_
            refine (show Ev (ab_T L_X6_perform) 0 ([some (.ref 12), some (.int x1), some (.int x2), some (.int x3)], [], (0, 0), hp) _ from ?_)
            refine Ev.step (j := 1) (s' := ([some (.ref 12), some (.int x1), some (.int x2), some (.int x3)], [.int x1], (0, 0), hp)) rfl rfl ?_
            refine bs_lit (k := 3) rfl rfl fun z14 hz14 => ?_
            refine bs_ne rfl (fun c15 => ?_) (fun c15 => ?_)
            · exfalso; omega
            · skip
              refine Ev.step (j := 6) (s' := ([some (.ref 12), some (.int x1), some (.int x2), some (.int x3)], [.ref 12], (0, 0), hp)) rfl rfl ?_
              refine bs_getU (g := 6) (g1 := 153) rfl rfl H (bs_R.uq H rfl) (by decide) rfl rfl ?_
              refine Ev.step (j := 10) (s' := ([some (.ref 12), some (.int x1), some (.int x2), some (.int x3)], [.int x2, .ref 17], (0, 0), hp)) rfl rfl ?_
              refine bs_lit (k := -1) rfl rfl fun z16 hz16 => ?_
              refine bs_st (W := [(153, 0, 7)]) (g := 153) 0 7 (-2147483648, 2147483647) rfl H (bs_R.uq H rfl) (by decide) rfl rfl (by decide) rfl rfl (by omega) (by omega) (by dsimp only; omega) (by dsimp only; omega) fun hp17 Hhp17 fhp17 rhp17 ehp17 qhp17 nhp17 => ?_
              have Fhp17 := sf_fr_tr F0 (sf_fr_wider (W := [(149, 0, 11), (150, 0, 11), (153, 0, 7)]) rfl fhp17)
              refine Ev.ret rfl rfl ?_
              refine (show Ev _ 21 ([some (.ref 12), some (.int x1), some (.int x2), some (.int x3), some (.int z12)], [], (0, 0), hp17) _ from ?_)
              refine Ev.step (j := 23) (s' := ([some (.ref 12), some (.int x1), some (.int x2), some (.int x3), some (.int z12)], [.int z12], (0, 0), hp17)) rfl rfl ?_
              exact Ev.ret rfl rfl ⟨t, Hhp17, Fhp17, bs_an0, sf_S_cons (sf_s1 (x := z12.toInt) rfl (by omega) (by omega)) (sf_S_nil)⟩
def kq_X6_attempt_13g : sf_Q := ([(1, 13, 0), (0, 0, 0), (0, 0, 0), (0, 0, 0)], [(1, 3, 0, 0, 2, 0), (1, 6, 0, 0, 11, 0), (1, 9, 0, 1, 250, 0)], some (0, 0, 0), [(1, 0, 0, 0, 2, 0)], [(156, 0, 11), (157, 0, 11), (160, 0, 7)])
set_option maxRecDepth 100000 in
set_option maxHeartbeats 4000000 in
theorem ct_X6_attempt_13g : sf_ct kq_X6_attempt_13g Z_X6_attempt := by
  intro t hp as H hl hj hpre
  match as, hl with
  | [v0, v1, v2, v3], _ =>
    obtain ⟨a0, rfl, ra0⟩ := bs_aR (hj 0 _ rfl)
    obtain rfl := ra0.eq H (p := 20) rfl
    obtain ⟨x1, rfl⟩ := bs_aI (hj 1 _ rfl)
    have rg1 := n_range x1
    obtain ⟨x2, rfl⟩ := bs_aI (hj 2 _ rfl)
    have rg2 := n_range x2
    obtain ⟨x3, rfl⟩ := bs_aI (hj 3 _ rfl)
    have rg3 := n_range x3
    obtain ⟨pl0, ph0⟩ := bs_s1 (x := x1.toInt) rfl (hpre _ (List.mem_of_getElem? (i := 0) rfl))
    obtain ⟨pl1, ph1⟩ := bs_s1 (x := x2.toInt) rfl (hpre _ (List.mem_of_getElem? (i := 1) rfl))
    obtain ⟨pl2, ph2⟩ := bs_s1 (x := x3.toInt) rfl (hpre _ (List.mem_of_getElem? (i := 2) rfl))
    clear hpre hj
    have F0 : sf_fr [(156, 0, 11), (157, 0, 11), (160, 0, 7)] t hp t hp := sf_fr_rf
    refine bs_fin (K := kq_X6_attempt_13g) (L := (L_X6_attempt Z_X6_whyNot Z_X6_perform)) (nL := 5) (Nat.le_of_ble_eq_true rfl) ?_
    refine (show Ev (ab_T (L_X6_attempt Z_X6_whyNot Z_X6_perform)) 0 ([some (.ref 20), some (.int x1), some (.int x2), some (.int x3), none], [], (0, 0), hp) _ from ?_)
    refine Ev.step (j := 1) (s' := ([some (.ref 20), some (.int x1), some (.int x2), some (.int x3), none], [.ref 20], (0, 0), hp)) rfl rfl ?_
    refine Ev.step (j := 2) (s' := ([some (.ref 20), some (.int x1), some (.int x2), some (.int x3), none], [.int x1, .ref 20], (0, 0), hp)) rfl rfl ?_
    refine Ev.step (j := 3) (s' := ([some (.ref 20), some (.int x1), some (.int x2), some (.int x3), none], [.int x2, .int x1, .ref 20], (0, 0), hp)) rfl rfl ?_
    refine Ev.step (j := 4) (s' := ([some (.ref 20), some (.int x1), some (.int x2), some (.int x3), none], [.int x3, .int x2, .int x1, .ref 20], (0, 0), hp)) rfl rfl ?_
    refine Ev.inl (L := (L_X6_whyNot Z_X6_isAlive)) (nL := 4) rfl (bs_rcv (g := 13) H (bs_R.uq H rfl) (by decide) rfl) rfl (Nat.le_of_ble_eq_true rfl) ?_
    refine (show Ev (ab_T (L_X6_whyNot Z_X6_isAlive)) 0 ([some (.ref 20), some (.int x1), some (.int x2), some (.int x3)], [], (0, 0), hp) _ from ?_)
    refine Ev.step (j := 1) (s' := ([some (.ref 20), some (.int x1), some (.int x2), some (.int x3)], [.int x1], (0, 0), hp)) rfl rfl ?_
    rcases (show x1.toInt = 0 ∨ x1.toInt = 1 ∨ x1.toInt = 2 by omega) with c1 | c1 | c1
    · refine bs_tab 0 rfl (by omega) rfl ?_
      refine Ev.step (j := 29) (s' := ([some (.ref 20), some (.int x1), some (.int x2), some (.int x3)], [.ref 20], (0, 0), hp)) rfl rfl ?_
      refine bs_getU (g := 13) (g1 := 156) rfl rfl H (bs_R.uq H rfl) (by decide) rfl rfl ?_
      refine Ev.step (j := 33) (s' := ([some (.ref 20), some (.int x1), some (.int x2), some (.int x3)], [.int x2, .ref 21], (0, 0), hp)) rfl rfl ?_
      refine bs_ld (g := 156) 0 11 (0, 999) rfl H (bs_R.uq H rfl) (by decide) rfl (by decide) (by decide) rfl (by decide) (by omega) (by omega) fun z2 hz2 lz2 gz2 => ?_
      dsimp only at lz2 gz2
      refine Ev.step (j := 35) (s' := ([some (.ref 20), some (.int x1), some (.int x2), some (.int x3)], [.int x3, .int z2], (0, 0), hp)) rfl rfl ?_
      refine bs_ge rfl (fun c3 => ?_) (fun c3 => ?_)
      · skip
        refine bs_lit (k := 0) rfl rfl fun z4 hz4 => ?_
        refine Ev.ret rfl rfl ?_
        refine (show Ev _ 7 ([some (.ref 20), some (.int x1), some (.int x2), some (.int x3), none], [.int z4], (0, 0), hp) _ from ?_)
        refine Ev.step (j := 9) (s' := ([some (.ref 20), some (.int x1), some (.int x2), some (.int x3), some (.int z4)], [], (0, 0), hp)) rfl rfl ?_
        refine Ev.step (j := 11) (s' := ([some (.ref 20), some (.int x1), some (.int x2), some (.int x3), some (.int z4)], [.int z4], (0, 0), hp)) rfl rfl ?_
        refine bs_ifne rfl (fun c5 => ?_) (fun c5 => ?_)
        · exfalso; omega
        · skip
          refine Ev.step (j := 15) (s' := ([some (.ref 20), some (.int x1), some (.int x2), some (.int x3), some (.int z4)], [.ref 20], (0, 0), hp)) rfl rfl ?_
          refine Ev.step (j := 16) (s' := ([some (.ref 20), some (.int x1), some (.int x2), some (.int x3), some (.int z4)], [.int x1, .ref 20], (0, 0), hp)) rfl rfl ?_
          refine Ev.step (j := 17) (s' := ([some (.ref 20), some (.int x1), some (.int x2), some (.int x3), some (.int z4)], [.int x2, .int x1, .ref 20], (0, 0), hp)) rfl rfl ?_
          refine Ev.step (j := 18) (s' := ([some (.ref 20), some (.int x1), some (.int x2), some (.int x3), some (.int z4)], [.int x3, .int x2, .int x1, .ref 20], (0, 0), hp)) rfl rfl ?_
          refine Ev.inl (L := L_X6_perform) (nL := 4) rfl (bs_rcv (g := 13) H (bs_R.uq H rfl) (by decide) rfl) rfl (Nat.le_of_ble_eq_true rfl) ?_
          refine (show Ev (ab_T L_X6_perform) 0 ([some (.ref 20), some (.int x1), some (.int x2), some (.int x3)], [], (0, 0), hp) _ from ?_)
          refine Ev.step (j := 1) (s' := ([some (.ref 20), some (.int x1), some (.int x2), some (.int x3)], [.int x1], (0, 0), hp)) rfl rfl ?_
          refine bs_lit (k := 3) rfl rfl fun z6 hz6 => ?_
          refine bs_ne rfl (fun c7 => ?_) (fun c7 => ?_)
          · skip
            refine Ev.step (j := 14) (s' := ([some (.ref 20), some (.int x1), some (.int x2), some (.int x3)], [.ref 20], (0, 0), hp)) rfl rfl ?_
            refine bs_getU (g := 13) (g1 := 156) rfl rfl H (bs_R.uq H rfl) (by decide) rfl rfl ?_
            refine Ev.step (j := 18) (s' := ([some (.ref 20), some (.int x1), some (.int x2), some (.int x3)], [.int x2, .ref 21], (0, 0), hp)) rfl rfl ?_
            refine Ev.step (j := 19) (s' := ([some (.ref 20), some (.int x1), some (.int x2), some (.int x3)], [.int x2, .ref 21, .int x2, .ref 21], (0, 0), hp)) rfl rfl ?_
            refine bs_ld (g := 156) 0 11 (0, 999) rfl H (bs_R.uq H rfl) (by decide) rfl (by decide) (by decide) rfl (by decide) (by omega) (by omega) fun z8 hz8 lz8 gz8 => ?_
            dsimp only at lz8 gz8
            have e9 : z8.toInt = z2.toInt := Option.some.inj (hz8.symm.trans hz2)
            refine Ev.step (j := 21) (s' := ([some (.ref 20), some (.int x1), some (.int x2), some (.int x3)], [.int x1, .int z8, .int x2, .ref 21], (0, 0), hp)) rfl rfl ?_
            refine bs_lit (k := 1) rfl rfl fun z10 hz10 => ?_
            refine bs_ne rfl (fun c11 => ?_) (fun c11 => ?_)
            · skip
              refine Ev.step (j := 30) (s' := ([some (.ref 20), some (.int x1), some (.int x2), some (.int x3)], [.int x3, .int z8, .int x2, .ref 21], (0, 0), hp)) rfl rfl ?_
              refine bs_neg rfl (by omega) fun z12 hz12 => ?_
              first | (refine bs_add rfl (by omega) (by omega) fun z13 hz13 => ?_) | (refine bs_any rfl fun z13 => ?_)
              have rz13 := n_range z13
              refine bs_st (W := [(156, 0, 11)]) (g := 156) 0 11 (0, 999) rfl H (bs_R.uq H rfl) (by decide) rfl rfl (by decide) rfl rfl (by omega) (by omega) (by dsimp only; omega) (by dsimp only; omega) fun hp14 Hhp14 fhp14 rhp14 ehp14 qhp14 nhp14 => ?_
              have Fhp14 := sf_fr_tr F0 (sf_fr_wider (W := [(156, 0, 11), (157, 0, 11), (160, 0, 7)]) rfl fhp14)
              refine Ev.step (j := 34) (s' := ([some (.ref 20), some (.int x1), some (.int x2), some (.int x3)], [.int x1], (0, 0), hp14)) rfl rfl ?_
              refine bs_ifne rfl (fun c15 => ?_) (fun c15 => ?_)
              · exfalso; omega
              · skip
                refine Ev.step (j := 38) (s' := ([some (.ref 20), some (.int x1), some (.int x2), some (.int x3)], [.ref 20], (0, 0), hp14)) rfl rfl ?_
                refine bs_getU (g := 13) (g1 := 157) rfl rfl Hhp14 (bs_R.uq Hhp14 rfl) (by decide) rfl rfl ?_
                refine Ev.step (j := 42) (s' := ([some (.ref 20), some (.int x1), some (.int x2), some (.int x3)], [.int x2, .ref 22], (0, 0), hp14)) rfl rfl ?_
                refine Ev.step (j := 43) (s' := ([some (.ref 20), some (.int x1), some (.int x2), some (.int x3)], [.int x2, .ref 22, .int x2, .ref 22], (0, 0), hp14)) rfl rfl ?_
                refine bs_ld (g := 157) 0 11 (-2147483648, 2147483647) rfl Hhp14 (bs_R.uq Hhp14 rfl) (by decide) rfl (by decide) (by decide) rfl (by decide) (by omega) (by omega) fun z16 hz16 lz16 gz16 => ?_
                dsimp only at lz16 gz16
                refine Ev.step (j := 45) (s' := ([some (.ref 20), some (.int x1), some (.int x2), some (.int x3)], [.int x3, .int z16, .int x2, .ref 22], (0, 0), hp14)) rfl rfl ?_
                first | (refine bs_add rfl (by omega) (by omega) fun z17 hz17 => ?_) | (refine bs_any rfl fun z17 => ?_)
                have rz17 := n_range z17
                refine bs_st (W := [(157, 0, 11)]) (g := 157) 0 11 (-2147483648, 2147483647) rfl Hhp14 (bs_R.uq Hhp14 rfl) (by decide) rfl rfl (by decide) rfl rfl (by omega) (by omega) (by dsimp only; omega) (by dsimp only; omega) fun hp18 Hhp18 fhp18 rhp18 ehp18 qhp18 nhp18 => ?_
                have Fhp18 := sf_fr_tr Fhp14 (sf_fr_wider (W := [(156, 0, 11), (157, 0, 11), (160, 0, 7)]) rfl fhp18)
                have h19 : sf_rd hp18 21 x2.toInt.toNat = some z13.toInt := (ehp18 _ _ (Or.inl (by decide))).trans rhp14
                refine Ev.step (j := 65) (s' := ([some (.ref 20), some (.int x1), some (.int x2), some (.int x3)], [], (0, 0), hp18)) rfl rfl ?_
                refine Ev.ret rfl rfl ?_
                refine (show Ev _ 21 ([some (.ref 20), some (.int x1), some (.int x2), some (.int x3), some (.int z4)], [], (0, 0), hp18) _ from ?_)
                refine Ev.step (j := 23) (s' := ([some (.ref 20), some (.int x1), some (.int x2), some (.int x3), some (.int z4)], [.int z4], (0, 0), hp18)) rfl rfl ?_
                exact Ev.ret rfl rfl ⟨t, Hhp18, Fhp18, bs_an0, sf_S_cons (sf_s1 (x := z4.toInt) rfl (by omega) (by omega)) (sf_S_nil)⟩
            · exfalso; omega
          · exfalso; omega
      · skip
        refine bs_lit (k := 1) rfl rfl fun z20 hz20 => ?_
        refine Ev.step (j := 43) (s' := ([some (.ref 20), some (.int x1), some (.int x2), some (.int x3)], [.int z20], (0, 0), hp)) rfl rfl ?_
        refine Ev.ret rfl rfl ?_
        refine (show Ev _ 7 ([some (.ref 20), some (.int x1), some (.int x2), some (.int x3), none], [.int z20], (0, 0), hp) _ from ?_)
        refine Ev.step (j := 9) (s' := ([some (.ref 20), some (.int x1), some (.int x2), some (.int x3), some (.int z20)], [], (0, 0), hp)) rfl rfl ?_
        refine Ev.step (j := 11) (s' := ([some (.ref 20), some (.int x1), some (.int x2), some (.int x3), some (.int z20)], [.int z20], (0, 0), hp)) rfl rfl ?_
        refine bs_ifne rfl (fun c21 => ?_) (fun c21 => ?_)
        · skip
          refine Ev.step (j := 23) (s' := ([some (.ref 20), some (.int x1), some (.int x2), some (.int x3), some (.int z20)], [.int z20], (0, 0), hp)) rfl rfl ?_
          exact Ev.ret rfl rfl ⟨t, H, F0, bs_an0, sf_S_cons (sf_s1 (x := z20.toInt) rfl (by omega) (by omega)) (sf_S_nil)⟩
        · exfalso; omega
    · refine bs_tab 1 rfl (by omega) rfl ?_
      refine Ev.step (j := 45) (s' := ([some (.ref 20), some (.int x1), some (.int x2), some (.int x3)], [.ref 20], (0, 0), hp)) rfl rfl ?_
      refine bs_getU (g := 13) (g1 := 157) rfl rfl H (bs_R.uq H rfl) (by decide) rfl rfl ?_
      refine Ev.step (j := 49) (s' := ([some (.ref 20), some (.int x1), some (.int x2), some (.int x3)], [.int x2, .ref 22], (0, 0), hp)) rfl rfl ?_
      refine bs_ld (g := 157) 0 11 (-2147483648, 2147483647) rfl H (bs_R.uq H rfl) (by decide) rfl (by decide) (by decide) rfl (by decide) (by omega) (by omega) fun z22 hz22 lz22 gz22 => ?_
      dsimp only at lz22 gz22
      refine Ev.step (j := 51) (s' := ([some (.ref 20), some (.int x1), some (.int x2), some (.int x3)], [.int x3, .int z22], (0, 0), hp)) rfl rfl ?_
      refine bs_ge rfl (fun c23 => ?_) (fun c23 => ?_)
      · skip
        refine Ev.step (j := 59) (s' := ([some (.ref 20), some (.int x1), some (.int x2), some (.int x3)], [.ref 20], (0, 0), hp)) rfl rfl ?_
        refine bs_getU (g := 13) (g1 := 156) rfl rfl H (bs_R.uq H rfl) (by decide) rfl rfl ?_
        refine Ev.step (j := 63) (s' := ([some (.ref 20), some (.int x1), some (.int x2), some (.int x3)], [.int x2, .ref 21], (0, 0), hp)) rfl rfl ?_
        refine bs_ld (g := 156) 0 11 (0, 999) rfl H (bs_R.uq H rfl) (by decide) rfl (by decide) (by decide) rfl (by decide) (by omega) (by omega) fun z24 hz24 lz24 gz24 => ?_
        dsimp only at lz24 gz24
        refine Ev.step (j := 65) (s' := ([some (.ref 20), some (.int x1), some (.int x2), some (.int x3)], [.int x3, .int z24], (0, 0), hp)) rfl rfl ?_
        first | (refine bs_add rfl (by omega) (by omega) fun z25 hz25 => ?_) | (refine bs_any rfl fun z25 => ?_)
        have rz25 := n_range z25
        refine bs_lit (k := 999) rfl rfl fun z26 hz26 => ?_
        refine bs_le rfl (fun c27 => ?_) (fun c27 => ?_)
        · skip
          refine bs_lit (k := 0) rfl rfl fun z28 hz28 => ?_
          refine Ev.ret rfl rfl ?_
          refine (show Ev _ 7 ([some (.ref 20), some (.int x1), some (.int x2), some (.int x3), none], [.int z28], (0, 0), hp) _ from ?_)
          refine Ev.step (j := 9) (s' := ([some (.ref 20), some (.int x1), some (.int x2), some (.int x3), some (.int z28)], [], (0, 0), hp)) rfl rfl ?_
          refine Ev.step (j := 11) (s' := ([some (.ref 20), some (.int x1), some (.int x2), some (.int x3), some (.int z28)], [.int z28], (0, 0), hp)) rfl rfl ?_
          refine bs_ifne rfl (fun c29 => ?_) (fun c29 => ?_)
          · exfalso; omega
          · skip
            refine Ev.step (j := 15) (s' := ([some (.ref 20), some (.int x1), some (.int x2), some (.int x3), some (.int z28)], [.ref 20], (0, 0), hp)) rfl rfl ?_
            refine Ev.step (j := 16) (s' := ([some (.ref 20), some (.int x1), some (.int x2), some (.int x3), some (.int z28)], [.int x1, .ref 20], (0, 0), hp)) rfl rfl ?_
            refine Ev.step (j := 17) (s' := ([some (.ref 20), some (.int x1), some (.int x2), some (.int x3), some (.int z28)], [.int x2, .int x1, .ref 20], (0, 0), hp)) rfl rfl ?_
            refine Ev.step (j := 18) (s' := ([some (.ref 20), some (.int x1), some (.int x2), some (.int x3), some (.int z28)], [.int x3, .int x2, .int x1, .ref 20], (0, 0), hp)) rfl rfl ?_
            refine Ev.inl (L := L_X6_perform) (nL := 4) rfl (bs_rcv (g := 13) H (bs_R.uq H rfl) (by decide) rfl) rfl (Nat.le_of_ble_eq_true rfl) ?_
            refine (show Ev (ab_T L_X6_perform) 0 ([some (.ref 20), some (.int x1), some (.int x2), some (.int x3)], [], (0, 0), hp) _ from ?_)
            refine Ev.step (j := 1) (s' := ([some (.ref 20), some (.int x1), some (.int x2), some (.int x3)], [.int x1], (0, 0), hp)) rfl rfl ?_
            refine bs_lit (k := 3) rfl rfl fun z30 hz30 => ?_
            refine bs_ne rfl (fun c31 => ?_) (fun c31 => ?_)
            · skip
              refine Ev.step (j := 14) (s' := ([some (.ref 20), some (.int x1), some (.int x2), some (.int x3)], [.ref 20], (0, 0), hp)) rfl rfl ?_
              refine bs_getU (g := 13) (g1 := 156) rfl rfl H (bs_R.uq H rfl) (by decide) rfl rfl ?_
              refine Ev.step (j := 18) (s' := ([some (.ref 20), some (.int x1), some (.int x2), some (.int x3)], [.int x2, .ref 21], (0, 0), hp)) rfl rfl ?_
              refine Ev.step (j := 19) (s' := ([some (.ref 20), some (.int x1), some (.int x2), some (.int x3)], [.int x2, .ref 21, .int x2, .ref 21], (0, 0), hp)) rfl rfl ?_
              refine bs_ld (g := 156) 0 11 (0, 999) rfl H (bs_R.uq H rfl) (by decide) rfl (by decide) (by decide) rfl (by decide) (by omega) (by omega) fun z32 hz32 lz32 gz32 => ?_
              dsimp only at lz32 gz32
              have e33 : z32.toInt = z24.toInt := Option.some.inj (hz32.symm.trans hz24)
              refine Ev.step (j := 21) (s' := ([some (.ref 20), some (.int x1), some (.int x2), some (.int x3)], [.int x1, .int z32, .int x2, .ref 21], (0, 0), hp)) rfl rfl ?_
              refine bs_lit (k := 1) rfl rfl fun z34 hz34 => ?_
              refine bs_ne rfl (fun c35 => ?_) (fun c35 => ?_)
              · exfalso; omega
              · skip
                refine Ev.step (j := 26) (s' := ([some (.ref 20), some (.int x1), some (.int x2), some (.int x3)], [.int x3, .int z32, .int x2, .ref 21], (0, 0), hp)) rfl rfl ?_
                refine Ev.step (j := 31) (s' := ([some (.ref 20), some (.int x1), some (.int x2), some (.int x3)], [.int x3, .int z32, .int x2, .ref 21], (0, 0), hp)) rfl rfl ?_
                first | (refine bs_add rfl (by omega) (by omega) fun z36 hz36 => ?_) | (refine bs_any rfl fun z36 => ?_)
                have rz36 := n_range z36
                refine bs_st (W := [(156, 0, 11)]) (g := 156) 0 11 (0, 999) rfl H (bs_R.uq H rfl) (by decide) rfl rfl (by decide) rfl rfl (by omega) (by omega) (by dsimp only; omega) (by dsimp only; omega) fun hp37 Hhp37 fhp37 rhp37 ehp37 qhp37 nhp37 => ?_
                have Fhp37 := sf_fr_tr F0 (sf_fr_wider (W := [(156, 0, 11), (157, 0, 11), (160, 0, 7)]) rfl fhp37)
                have h38 : sf_rd hp37 22 x2.toInt.toNat = some z22.toInt := (ehp37 _ _ (Or.inl (by decide))).trans hz22
                refine Ev.step (j := 34) (s' := ([some (.ref 20), some (.int x1), some (.int x2), some (.int x3)], [.int x1], (0, 0), hp37)) rfl rfl ?_
                refine bs_ifne rfl (fun c39 => ?_) (fun c39 => ?_)
                · skip
                  refine Ev.step (j := 51) (s' := ([some (.ref 20), some (.int x1), some (.int x2), some (.int x3)], [.int x1], (0, 0), hp37)) rfl rfl ?_
                  refine bs_lit (k := 1) rfl rfl fun z40 hz40 => ?_
                  refine bs_ne rfl (fun c41 => ?_) (fun c41 => ?_)
                  · exfalso; omega
                  · skip
                    refine Ev.step (j := 56) (s' := ([some (.ref 20), some (.int x1), some (.int x2), some (.int x3)], [.ref 20], (0, 0), hp37)) rfl rfl ?_
                    refine bs_getU (g := 13) (g1 := 157) rfl rfl Hhp37 (bs_R.uq Hhp37 rfl) (by decide) rfl rfl ?_
                    refine Ev.step (j := 60) (s' := ([some (.ref 20), some (.int x1), some (.int x2), some (.int x3)], [.int x2, .ref 22], (0, 0), hp37)) rfl rfl ?_
                    refine Ev.step (j := 61) (s' := ([some (.ref 20), some (.int x1), some (.int x2), some (.int x3)], [.int x2, .ref 22, .int x2, .ref 22], (0, 0), hp37)) rfl rfl ?_
                    refine bs_ld (g := 157) 0 11 (-2147483648, 2147483647) rfl Hhp37 (bs_R.uq Hhp37 rfl) (by decide) rfl (by decide) (by decide) rfl (by decide) (by omega) (by omega) fun z42 hz42 lz42 gz42 => ?_
                    dsimp only at lz42 gz42
                    have e43 : z42.toInt = z22.toInt := Option.some.inj (hz42.symm.trans h38)
                    refine Ev.step (j := 63) (s' := ([some (.ref 20), some (.int x1), some (.int x2), some (.int x3)], [.int x3, .int z42, .int x2, .ref 22], (0, 0), hp37)) rfl rfl ?_
                    first | (refine bs_sub rfl (by omega) (by omega) fun z44 hz44 => ?_) | (refine bs_any rfl fun z44 => ?_)
                    have rz44 := n_range z44
                    refine bs_st (W := [(157, 0, 11)]) (g := 157) 0 11 (-2147483648, 2147483647) rfl Hhp37 (bs_R.uq Hhp37 rfl) (by decide) rfl rfl (by decide) rfl rfl (by omega) (by omega) (by dsimp only; omega) (by dsimp only; omega) fun hp45 Hhp45 fhp45 rhp45 ehp45 qhp45 nhp45 => ?_
                    have Fhp45 := sf_fr_tr Fhp37 (sf_fr_wider (W := [(156, 0, 11), (157, 0, 11), (160, 0, 7)]) rfl fhp45)
                    have h46 : sf_rd hp45 21 x2.toInt.toNat = some z36.toInt := (ehp45 _ _ (Or.inl (by decide))).trans rhp37
                    refine Ev.ret rfl rfl ?_
                    refine (show Ev _ 21 ([some (.ref 20), some (.int x1), some (.int x2), some (.int x3), some (.int z28)], [], (0, 0), hp45) _ from ?_)
                    refine Ev.step (j := 23) (s' := ([some (.ref 20), some (.int x1), some (.int x2), some (.int x3), some (.int z28)], [.int z28], (0, 0), hp45)) rfl rfl ?_
                    exact Ev.ret rfl rfl ⟨t, Hhp45, Fhp45, bs_an0, sf_S_cons (sf_s1 (x := z28.toInt) rfl (by omega) (by omega)) (sf_S_nil)⟩
                · exfalso; omega
            · exfalso; omega
        · skip
          refine bs_lit (k := 2) rfl rfl fun z47 hz47 => ?_
          refine Ev.step (j := 77) (s' := ([some (.ref 20), some (.int x1), some (.int x2), some (.int x3)], [.int z47], (0, 0), hp)) rfl rfl ?_
          refine Ev.ret rfl rfl ?_
          refine (show Ev _ 7 ([some (.ref 20), some (.int x1), some (.int x2), some (.int x3), none], [.int z47], (0, 0), hp) _ from ?_)
          refine Ev.step (j := 9) (s' := ([some (.ref 20), some (.int x1), some (.int x2), some (.int x3), some (.int z47)], [], (0, 0), hp)) rfl rfl ?_
          refine Ev.step (j := 11) (s' := ([some (.ref 20), some (.int x1), some (.int x2), some (.int x3), some (.int z47)], [.int z47], (0, 0), hp)) rfl rfl ?_
          refine bs_ifne rfl (fun c48 => ?_) (fun c48 => ?_)
          · skip
            refine Ev.step (j := 23) (s' := ([some (.ref 20), some (.int x1), some (.int x2), some (.int x3), some (.int z47)], [.int z47], (0, 0), hp)) rfl rfl ?_
            exact Ev.ret rfl rfl ⟨t, H, F0, bs_an0, sf_S_cons (sf_s1 (x := z47.toInt) rfl (by omega) (by omega)) (sf_S_nil)⟩
          · exfalso; omega
      · skip
        refine bs_lit (k := 1) rfl rfl fun z49 hz49 => ?_
        refine Ev.step (j := 77) (s' := ([some (.ref 20), some (.int x1), some (.int x2), some (.int x3)], [.int z49], (0, 0), hp)) rfl rfl ?_
        refine Ev.ret rfl rfl ?_
        refine (show Ev _ 7 ([some (.ref 20), some (.int x1), some (.int x2), some (.int x3), none], [.int z49], (0, 0), hp) _ from ?_)
        refine Ev.step (j := 9) (s' := ([some (.ref 20), some (.int x1), some (.int x2), some (.int x3), some (.int z49)], [], (0, 0), hp)) rfl rfl ?_
        refine Ev.step (j := 11) (s' := ([some (.ref 20), some (.int x1), some (.int x2), some (.int x3), some (.int z49)], [.int z49], (0, 0), hp)) rfl rfl ?_
        refine bs_ifne rfl (fun c50 => ?_) (fun c50 => ?_)
        · skip
          refine Ev.step (j := 23) (s' := ([some (.ref 20), some (.int x1), some (.int x2), some (.int x3), some (.int z49)], [.int z49], (0, 0), hp)) rfl rfl ?_
          exact Ev.ret rfl rfl ⟨t, H, F0, bs_an0, sf_S_cons (sf_s1 (x := z49.toInt) rfl (by omega) (by omega)) (sf_S_nil)⟩
        · exfalso; omega
    · refine bs_tab 2 rfl (by omega) rfl ?_
      refine Ev.step (j := 79) (s' := ([some (.ref 20), some (.int x1), some (.int x2), some (.int x3)], [.ref 20], (0, 0), hp)) rfl rfl ?_
      refine bs_getU (g := 13) (g1 := 156) rfl rfl H (bs_R.uq H rfl) (by decide) rfl rfl ?_
      refine Ev.step (j := 83) (s' := ([some (.ref 20), some (.int x1), some (.int x2), some (.int x3)], [.int x2, .ref 21], (0, 0), hp)) rfl rfl ?_
      refine bs_ld (g := 156) 0 11 (0, 999) rfl H (bs_R.uq H rfl) (by decide) rfl (by decide) (by decide) rfl (by decide) (by omega) (by omega) fun z51 hz51 lz51 gz51 => ?_
      dsimp only at lz51 gz51
      refine Ev.step (j := 85) (s' := ([some (.ref 20), some (.int x1), some (.int x2), some (.int x3)], [.int x3, .int z51], (0, 0), hp)) rfl rfl ?_
      refine bs_ge rfl (fun c52 => ?_) (fun c52 => ?_)
      · skip
        refine bs_lit (k := 0) rfl rfl fun z53 hz53 => ?_
        refine Ev.ret rfl rfl ?_
        refine (show Ev _ 7 ([some (.ref 20), some (.int x1), some (.int x2), some (.int x3), none], [.int z53], (0, 0), hp) _ from ?_)
        refine Ev.step (j := 9) (s' := ([some (.ref 20), some (.int x1), some (.int x2), some (.int x3), some (.int z53)], [], (0, 0), hp)) rfl rfl ?_
        refine Ev.step (j := 11) (s' := ([some (.ref 20), some (.int x1), some (.int x2), some (.int x3), some (.int z53)], [.int z53], (0, 0), hp)) rfl rfl ?_
        refine bs_ifne rfl (fun c54 => ?_) (fun c54 => ?_)
        · exfalso; omega
        · skip
          refine Ev.step (j := 15) (s' := ([some (.ref 20), some (.int x1), some (.int x2), some (.int x3), some (.int z53)], [.ref 20], (0, 0), hp)) rfl rfl ?_
          refine Ev.step (j := 16) (s' := ([some (.ref 20), some (.int x1), some (.int x2), some (.int x3), some (.int z53)], [.int x1, .ref 20], (0, 0), hp)) rfl rfl ?_
          refine Ev.step (j := 17) (s' := ([some (.ref 20), some (.int x1), some (.int x2), some (.int x3), some (.int z53)], [.int x2, .int x1, .ref 20], (0, 0), hp)) rfl rfl ?_
          refine Ev.step (j := 18) (s' := ([some (.ref 20), some (.int x1), some (.int x2), some (.int x3), some (.int z53)], [.int x3, .int x2, .int x1, .ref 20], (0, 0), hp)) rfl rfl ?_
          refine Ev.inl (L := L_X6_perform) (nL := 4) rfl (bs_rcv (g := 13) H (bs_R.uq H rfl) (by decide) rfl) rfl (Nat.le_of_ble_eq_true rfl) ?_
          refine (show Ev (ab_T L_X6_perform) 0 ([some (.ref 20), some (.int x1), some (.int x2), some (.int x3)], [], (0, 0), hp) _ from ?_)
          refine Ev.step (j := 1) (s' := ([some (.ref 20), some (.int x1), some (.int x2), some (.int x3)], [.int x1], (0, 0), hp)) rfl rfl ?_
          refine bs_lit (k := 3) rfl rfl fun z55 hz55 => ?_
          refine bs_ne rfl (fun c56 => ?_) (fun c56 => ?_)
          · skip
            refine Ev.step (j := 14) (s' := ([some (.ref 20), some (.int x1), some (.int x2), some (.int x3)], [.ref 20], (0, 0), hp)) rfl rfl ?_
            refine bs_getU (g := 13) (g1 := 156) rfl rfl H (bs_R.uq H rfl) (by decide) rfl rfl ?_
            refine Ev.step (j := 18) (s' := ([some (.ref 20), some (.int x1), some (.int x2), some (.int x3)], [.int x2, .ref 21], (0, 0), hp)) rfl rfl ?_
            refine Ev.step (j := 19) (s' := ([some (.ref 20), some (.int x1), some (.int x2), some (.int x3)], [.int x2, .ref 21, .int x2, .ref 21], (0, 0), hp)) rfl rfl ?_
            refine bs_ld (g := 156) 0 11 (0, 999) rfl H (bs_R.uq H rfl) (by decide) rfl (by decide) (by decide) rfl (by decide) (by omega) (by omega) fun z57 hz57 lz57 gz57 => ?_
            dsimp only at lz57 gz57
            have e58 : z57.toInt = z51.toInt := Option.some.inj (hz57.symm.trans hz51)
            refine Ev.step (j := 21) (s' := ([some (.ref 20), some (.int x1), some (.int x2), some (.int x3)], [.int x1, .int z57, .int x2, .ref 21], (0, 0), hp)) rfl rfl ?_
            refine bs_lit (k := 1) rfl rfl fun z59 hz59 => ?_
            refine bs_ne rfl (fun c60 => ?_) (fun c60 => ?_)
            · skip
              refine Ev.step (j := 30) (s' := ([some (.ref 20), some (.int x1), some (.int x2), some (.int x3)], [.int x3, .int z57, .int x2, .ref 21], (0, 0), hp)) rfl rfl ?_
              refine bs_neg rfl (by omega) fun z61 hz61 => ?_
              first | (refine bs_add rfl (by omega) (by omega) fun z62 hz62 => ?_) | (refine bs_any rfl fun z62 => ?_)
              have rz62 := n_range z62
              refine bs_st (W := [(156, 0, 11)]) (g := 156) 0 11 (0, 999) rfl H (bs_R.uq H rfl) (by decide) rfl rfl (by decide) rfl rfl (by omega) (by omega) (by dsimp only; omega) (by dsimp only; omega) fun hp63 Hhp63 fhp63 rhp63 ehp63 qhp63 nhp63 => ?_
              have Fhp63 := sf_fr_tr F0 (sf_fr_wider (W := [(156, 0, 11), (157, 0, 11), (160, 0, 7)]) rfl fhp63)
              refine Ev.step (j := 34) (s' := ([some (.ref 20), some (.int x1), some (.int x2), some (.int x3)], [.int x1], (0, 0), hp63)) rfl rfl ?_
              refine bs_ifne rfl (fun c64 => ?_) (fun c64 => ?_)
              · skip
                refine Ev.step (j := 51) (s' := ([some (.ref 20), some (.int x1), some (.int x2), some (.int x3)], [.int x1], (0, 0), hp63)) rfl rfl ?_
                refine bs_lit (k := 1) rfl rfl fun z65 hz65 => ?_
                refine bs_ne rfl (fun c66 => ?_) (fun c66 => ?_)
                · skip
                  refine Ev.ret rfl rfl ?_
                  refine (show Ev _ 21 ([some (.ref 20), some (.int x1), some (.int x2), some (.int x3), some (.int z53)], [], (0, 0), hp63) _ from ?_)
                  refine Ev.step (j := 23) (s' := ([some (.ref 20), some (.int x1), some (.int x2), some (.int x3), some (.int z53)], [.int z53], (0, 0), hp63)) rfl rfl ?_
                  exact Ev.ret rfl rfl ⟨t, Hhp63, Fhp63, bs_an0, sf_S_cons (sf_s1 (x := z53.toInt) rfl (by omega) (by omega)) (sf_S_nil)⟩
                · exfalso; omega
              · exfalso; omega
            · exfalso; omega
          · exfalso; omega
      · skip
        refine bs_lit (k := 1) rfl rfl fun z67 hz67 => ?_
        refine Ev.step (j := 93) (s' := ([some (.ref 20), some (.int x1), some (.int x2), some (.int x3)], [.int z67], (0, 0), hp)) rfl rfl ?_
        refine Ev.ret rfl rfl ?_
        refine (show Ev _ 7 ([some (.ref 20), some (.int x1), some (.int x2), some (.int x3), none], [.int z67], (0, 0), hp) _ from ?_)
        refine Ev.step (j := 9) (s' := ([some (.ref 20), some (.int x1), some (.int x2), some (.int x3), some (.int z67)], [], (0, 0), hp)) rfl rfl ?_
        refine Ev.step (j := 11) (s' := ([some (.ref 20), some (.int x1), some (.int x2), some (.int x3), some (.int z67)], [.int z67], (0, 0), hp)) rfl rfl ?_
        refine bs_ifne rfl (fun c68 => ?_) (fun c68 => ?_)
        · skip
          refine Ev.step (j := 23) (s' := ([some (.ref 20), some (.int x1), some (.int x2), some (.int x3), some (.int z67)], [.int z67], (0, 0), hp)) rfl rfl ?_
          exact Ev.ret rfl rfl ⟨t, H, F0, bs_an0, sf_S_cons (sf_s1 (x := z67.toInt) rfl (by omega) (by omega)) (sf_S_nil)⟩
        · exfalso; omega
def kq_X6_attempt_13d : sf_Q := ([(1, 13, 0), (0, 0, 0), (0, 0, 0), (0, 0, 0)], [(1, 3, 0, 3, 3, 0), (1, 6, 0, 0, 7, 0), (1, 9, 0, 0, 0, 0)], some (0, 0, 0), [(1, 0, 0, 0, 2, 0)], [(156, 0, 11), (157, 0, 11), (160, 0, 7)])
set_option maxRecDepth 100000 in
set_option maxHeartbeats 4000000 in
theorem ct_X6_attempt_13d : sf_ct kq_X6_attempt_13d Z_X6_attempt := by
  intro t hp as H hl hj hpre
  match as, hl with
  | [v0, v1, v2, v3], _ =>
    obtain ⟨a0, rfl, ra0⟩ := bs_aR (hj 0 _ rfl)
    obtain rfl := ra0.eq H (p := 20) rfl
    obtain ⟨x1, rfl⟩ := bs_aI (hj 1 _ rfl)
    have rg1 := n_range x1
    obtain ⟨x2, rfl⟩ := bs_aI (hj 2 _ rfl)
    have rg2 := n_range x2
    obtain ⟨x3, rfl⟩ := bs_aI (hj 3 _ rfl)
    have rg3 := n_range x3
    obtain ⟨pl0, ph0⟩ := bs_s1 (x := x1.toInt) rfl (hpre _ (List.mem_of_getElem? (i := 0) rfl))
    obtain ⟨pl1, ph1⟩ := bs_s1 (x := x2.toInt) rfl (hpre _ (List.mem_of_getElem? (i := 1) rfl))
    obtain ⟨pl2, ph2⟩ := bs_s1 (x := x3.toInt) rfl (hpre _ (List.mem_of_getElem? (i := 2) rfl))
    clear hpre hj
    have F0 : sf_fr [(156, 0, 11), (157, 0, 11), (160, 0, 7)] t hp t hp := sf_fr_rf
    refine bs_fin (K := kq_X6_attempt_13d) (L := (L_X6_attempt Z_X6_whyNot Z_X6_perform)) (nL := 5) (Nat.le_of_ble_eq_true rfl) ?_
    refine (show Ev (ab_T (L_X6_attempt Z_X6_whyNot Z_X6_perform)) 0 ([some (.ref 20), some (.int x1), some (.int x2), some (.int x3), none], [], (0, 0), hp) _ from ?_)
    refine Ev.step (j := 1) (s' := ([some (.ref 20), some (.int x1), some (.int x2), some (.int x3), none], [.ref 20], (0, 0), hp)) rfl rfl ?_
    refine Ev.step (j := 2) (s' := ([some (.ref 20), some (.int x1), some (.int x2), some (.int x3), none], [.int x1, .ref 20], (0, 0), hp)) rfl rfl ?_
    refine Ev.step (j := 3) (s' := ([some (.ref 20), some (.int x1), some (.int x2), some (.int x3), none], [.int x2, .int x1, .ref 20], (0, 0), hp)) rfl rfl ?_
    refine Ev.step (j := 4) (s' := ([some (.ref 20), some (.int x1), some (.int x2), some (.int x3), none], [.int x3, .int x2, .int x1, .ref 20], (0, 0), hp)) rfl rfl ?_
    refine Ev.inl (L := (L_X6_whyNot Z_X6_isAlive)) (nL := 4) rfl (bs_rcv (g := 13) H (bs_R.uq H rfl) (by decide) rfl) rfl (Nat.le_of_ble_eq_true rfl) ?_
    refine (show Ev (ab_T (L_X6_whyNot Z_X6_isAlive)) 0 ([some (.ref 20), some (.int x1), some (.int x2), some (.int x3)], [], (0, 0), hp) _ from ?_)
    refine Ev.step (j := 1) (s' := ([some (.ref 20), some (.int x1), some (.int x2), some (.int x3)], [.int x1], (0, 0), hp)) rfl rfl ?_
    rcases (show x1.toInt = 3 by omega) with c1
    · refine bs_tabD rfl (by show _ ∨ _ + ((3 : Nat) : Int) ≤ _; omega) ?_
      refine Ev.step (j := 95) (s' := ([some (.ref 20), some (.int x1), some (.int x2), some (.int x3)], [.ref 20], (0, 0), hp)) rfl rfl ?_
      refine Ev.step (j := 96) (s' := ([some (.ref 20), some (.int x1), some (.int x2), some (.int x3)], [.int x2, .ref 20], (0, 0), hp)) rfl rfl ?_
      refine Ev.inl (L := L_X6_isAlive) (nL := 2) rfl (bs_rcv (g := 13) H (bs_R.uq H rfl) (by decide) rfl) rfl (Nat.le_of_ble_eq_true rfl) ?_
      refine (show Ev (ab_T L_X6_isAlive) 0 ([some (.ref 20), some (.int x2)], [], (0, 0), hp) _ from ?_)
      refine Ev.step (j := 1) (s' := ([some (.ref 20), some (.int x2)], [.ref 20], (0, 0), hp)) rfl rfl ?_
      refine bs_getU (g := 13) (g1 := 160) rfl rfl H (bs_R.uq H rfl) (by decide) rfl rfl ?_
      refine Ev.step (j := 5) (s' := ([some (.ref 20), some (.int x2)], [.int x2, .ref 25], (0, 0), hp)) rfl rfl ?_
      refine bs_ld (g := 160) 0 7 (-2147483648, 2147483647) rfl H (bs_R.uq H rfl) (by decide) rfl (by decide) (by decide) rfl (by decide) (by omega) (by omega) fun z2 hz2 lz2 gz2 => ?_
      dsimp only at lz2 gz2
      refine bs_lit (k := -1) rfl rfl fun z3 hz3 => ?_
      refine bs_eq rfl (fun c4 => ?_) (fun c4 => ?_)
      · skip
        have c5 : z2.toInt = -1 := by omega
        refine bs_lit (k := 0) rfl rfl fun z6 hz6 => ?_
        refine bs_zret rfl rfl (by omega) (by omega) ?_
        refine (show Ev _ 99 ([some (.ref 20), some (.int x1), some (.int x2), some (.int x3)], [.int z6], (0, 0), hp) _ from ?_)
        refine bs_ifeq rfl (fun c7 => ?_) (fun c7 => ?_)
        · skip
          refine bs_lit (k := 1) rfl rfl fun z8 hz8 => ?_
          refine Ev.ret rfl rfl ?_
          refine (show Ev _ 7 ([some (.ref 20), some (.int x1), some (.int x2), some (.int x3), none], [.int z8], (0, 0), hp) _ from ?_)
          refine Ev.step (j := 9) (s' := ([some (.ref 20), some (.int x1), some (.int x2), some (.int x3), some (.int z8)], [], (0, 0), hp)) rfl rfl ?_
          refine Ev.step (j := 11) (s' := ([some (.ref 20), some (.int x1), some (.int x2), some (.int x3), some (.int z8)], [.int z8], (0, 0), hp)) rfl rfl ?_
          refine bs_ifne rfl (fun c9 => ?_) (fun c9 => ?_)
          · skip
            refine Ev.step (j := 23) (s' := ([some (.ref 20), some (.int x1), some (.int x2), some (.int x3), some (.int z8)], [.int z8], (0, 0), hp)) rfl rfl ?_
            exact Ev.ret rfl rfl ⟨t, H, F0, bs_an0, sf_S_cons (sf_s1 (x := z8.toInt) rfl (by omega) (by omega)) (sf_S_nil)⟩
          · exfalso; omega
        · exfalso; omega
      · skip
        refine bs_lit (k := 1) rfl rfl fun z10 hz10 => ?_
        refine Ev.step (j := 15) (s' := ([some (.ref 20), some (.int x2)], [.int z10], (0, 0), hp)) rfl rfl ?_
        refine bs_zret rfl rfl (by omega) (by omega) ?_
        refine (show Ev _ 99 ([some (.ref 20), some (.int x1), some (.int x2), some (.int x3)], [.int z10], (0, 0), hp) _ from ?_)
        refine bs_ifeq rfl (fun c11 => ?_) (fun c11 => ?_)
        · exfalso; omega
        · skip
          refine bs_lit (k := 0) rfl rfl fun z12 hz12 => ?_
          refine Ev.step (j := 107) (s' := ([some (.ref 20), some (.int x1), some (.int x2), some (.int x3)], [.int z12], (0, 0), hp)) rfl rfl ?_
          refine Ev.ret rfl rfl ?_
          refine (show Ev _ 7 ([some (.ref 20), some (.int x1), some (.int x2), some (.int x3), none], [.int z12], (0, 0), hp) _ from ?_)
          refine Ev.step (j := 9) (s' := ([some (.ref 20), some (.int x1), some (.int x2), some (.int x3), some (.int z12)], [], (0, 0), hp)) rfl rfl ?_
          refine Ev.step (j := 11) (s' := ([some (.ref 20), some (.int x1), some (.int x2), some (.int x3), some (.int z12)], [.int z12], (0, 0), hp)) rfl rfl ?_
          refine bs_ifne rfl (fun c13 => ?_) (fun c13 => ?_)
          · exfalso; omega
          · skip
            refine Ev.step (j := 15) (s' := ([some (.ref 20), some (.int x1), some (.int x2), some (.int x3), some (.int z12)], [.ref 20], (0, 0), hp)) rfl rfl ?_
            refine Ev.step (j := 16) (s' := ([some (.ref 20), some (.int x1), some (.int x2), some (.int x3), some (.int z12)], [.int x1, .ref 20], (0, 0), hp)) rfl rfl ?_
            refine Ev.step (j := 17) (s' := ([some (.ref 20), some (.int x1), some (.int x2), some (.int x3), some (.int z12)], [.int x2, .int x1, .ref 20], (0, 0), hp)) rfl rfl ?_
            refine Ev.step (j := 18) (s' := ([some (.ref 20), some (.int x1), some (.int x2), some (.int x3), some (.int z12)], [.int x3, .int x2, .int x1, .ref 20], (0, 0), hp)) rfl rfl ?_
            refine Ev.inl (L := L_X6_perform) (nL := 4) rfl (bs_rcv (g := 13) H (bs_R.uq H rfl) (by decide) rfl) rfl (Nat.le_of_ble_eq_true rfl) ?_
            refine (show Ev (ab_T L_X6_perform) 0 ([some (.ref 20), some (.int x1), some (.int x2), some (.int x3)], [], (0, 0), hp) _ from ?_)
            refine Ev.step (j := 1) (s' := ([some (.ref 20), some (.int x1), some (.int x2), some (.int x3)], [.int x1], (0, 0), hp)) rfl rfl ?_
            refine bs_lit (k := 3) rfl rfl fun z14 hz14 => ?_
            refine bs_ne rfl (fun c15 => ?_) (fun c15 => ?_)
            · exfalso; omega
            · skip
              refine Ev.step (j := 6) (s' := ([some (.ref 20), some (.int x1), some (.int x2), some (.int x3)], [.ref 20], (0, 0), hp)) rfl rfl ?_
              refine bs_getU (g := 13) (g1 := 160) rfl rfl H (bs_R.uq H rfl) (by decide) rfl rfl ?_
              refine Ev.step (j := 10) (s' := ([some (.ref 20), some (.int x1), some (.int x2), some (.int x3)], [.int x2, .ref 25], (0, 0), hp)) rfl rfl ?_
              refine bs_lit (k := -1) rfl rfl fun z16 hz16 => ?_
              refine bs_st (W := [(160, 0, 7)]) (g := 160) 0 7 (-2147483648, 2147483647) rfl H (bs_R.uq H rfl) (by decide) rfl rfl (by decide) rfl rfl (by omega) (by omega) (by dsimp only; omega) (by dsimp only; omega) fun hp17 Hhp17 fhp17 rhp17 ehp17 qhp17 nhp17 => ?_
              have Fhp17 := sf_fr_tr F0 (sf_fr_wider (W := [(156, 0, 11), (157, 0, 11), (160, 0, 7)]) rfl fhp17)
              refine Ev.ret rfl rfl ?_
              refine (show Ev _ 21 ([some (.ref 20), some (.int x1), some (.int x2), some (.int x3), some (.int z12)], [], (0, 0), hp17) _ from ?_)
              refine Ev.step (j := 23) (s' := ([some (.ref 20), some (.int x1), some (.int x2), some (.int x3), some (.int z12)], [.int z12], (0, 0), hp17)) rfl rfl ?_
              exact Ev.ret rfl rfl ⟨t, Hhp17, Fhp17, bs_an0, sf_S_cons (sf_s1 (x := z12.toInt) rfl (by omega) (by omega)) (sf_S_nil)⟩
