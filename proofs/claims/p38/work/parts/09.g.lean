-- 63.b00.lean.txt
section
def kq_X6_attempt_6g : sf_Q := ([(1, 6, 0), (0, 0, 0), (0, 0, 0), (0, 0, 0)], [(1, 3, 0, 0, 2, 0), (1, 6, 0, 0, 11, 0), (1, 9, 0, 1, 250, 0)], some (0, 0, 0), [(1, 0, 0, 0, 2, 0)], [(149, 0, 11), (150, 0, 11), (153, 0, 7)])
set_option maxRecDepth 100000 in
set_option maxHeartbeats 4000000 in
theorem ct_X6_attempt_6g : sf_ct kq_X6_attempt_6g Z_X6_attempt := by
  intro t hp as H hl hj hpre
  match as, hl with
  | [v0, v1, v2, v3], _ =>
    obtain ⟨a0, rfl, ra0⟩ := bs_aR (hj 0 _ rfl)
    obtain rfl := ra0.eq H (p := 12) rfl
    obtain ⟨x1, rfl⟩ := bs_aI (hj 1 _ rfl)
    have rg1 := n_range x1
    obtain ⟨x2, rfl⟩ := bs_aI (hj 2 _ rfl)
    have rg2 := n_range x2
    obtain ⟨x3, rfl⟩ := bs_aI (hj 3 _ rfl)
    have rg3 := n_range x3
    obtain ⟨pl0, ph0⟩ := bs_s1 (x := x1.toInt) rfl (hpre _ (List.mem_of_getElem? (i := 0) rfl))
    obtain ⟨pl1, ph1⟩ := bs_s1 (x := x2.toInt) rfl (hpre _ (List.mem_of_getElem? (i := 1) rfl))
    obtain ⟨pl2, ph2⟩ := bs_s1 (x := x3.toInt) rfl (hpre _ (List.mem_of_getElem? (i := 2) rfl))
    clear hpre hj
    have F0 : sf_fr [(149, 0, 11), (150, 0, 11), (153, 0, 7)] t hp t hp := sf_fr_rf
    refine bs_fin (K := kq_X6_attempt_6g) (L := (L_X6_attempt Z_X6_whyNot Z_X6_perform)) (nL := 5) (Nat.le_of_ble_eq_true rfl) ?_
    obtain ⟨Q, hQ⟩ : ∃ Q : ab_O → Prop, Q = (fun o => ∃ t', sf_h t' o.2 ∧ sf_fr (kq_X6_attempt_6g).2.2.2.2 t hp t' o.2 ∧ sf_an t' o.2.1 (kq_X6_attempt_6g).2.2.1 o.1 ∧ sf_S (sf_v1 o.1 [.ref 12, .int x1, .int x2, .int x3] o.2) (kq_X6_attempt_6g).2.2.2.1) := ⟨_, rfl⟩
    rw [← hQ]
    refine (show Ev (ab_T (L_X6_attempt Z_X6_whyNot Z_X6_perform)) 0 ([some (.ref 12), some (.int x1), some (.int x2), some (.int x3), none], [], (0, 0), hp) Q from ?_)
    exact by
     refine Ev.step (j := 1) (s' := ([some (.ref 12), some (.int x1), some (.int x2), some (.int x3), none], [.ref 12], (0, 0), hp)) rfl rfl ?_
     refine Ev.step (j := 2) (s' := ([some (.ref 12), some (.int x1), some (.int x2), some (.int x3), none], [.int x1, .ref 12], (0, 0), hp)) rfl rfl ?_
     refine Ev.step (j := 3) (s' := ([some (.ref 12), some (.int x1), some (.int x2), some (.int x3), none], [.int x2, .int x1, .ref 12], (0, 0), hp)) rfl rfl ?_
     refine Ev.step (j := 4) (s' := ([some (.ref 12), some (.int x1), some (.int x2), some (.int x3), none], [.int x3, .int x2, .int x1, .ref 12], (0, 0), hp)) rfl rfl ?_
     refine Ev.inl (L := (L_X6_whyNot Z_X6_isAlive)) (nL := 4) rfl (bs_rcv (g := 6) H (bs_R.uq H (g := 6) rfl) (by decide) rfl) rfl (Nat.le_of_ble_eq_true rfl) ?_
     generalize hQ1 : (fun (o : ab_O) => Ev _ _ _ _) = Q1
     refine (show Ev (ab_T (L_X6_whyNot Z_X6_isAlive)) 0 ([some (.ref 12), some (.int x1), some (.int x2), some (.int x3)], [], (0, 0), hp) Q1 from ?_)
     refine Ev.step (j := 1) (s' := ([some (.ref 12), some (.int x1), some (.int x2), some (.int x3)], [.int x1], (0, 0), hp)) rfl rfl ?_
     rcases (show x1.toInt = 0 ∨ x1.toInt = 1 ∨ x1.toInt = 2 by omega) with c2 | c2 | c2
     · refine bs_tab 0 rfl (by omega) rfl ?_
       refine Ev.step (j := 29) (s' := ([some (.ref 12), some (.int x1), some (.int x2), some (.int x3)], [.ref 12], (0, 0), hp)) rfl rfl ?_
       exact by
        refine bs_getU (g := 6) (g1 := 149) rfl rfl H (bs_R.uq H (g := 6) rfl) (by decide) rfl rfl ?_
        refine Ev.step (j := 33) (s' := ([some (.ref 12), some (.int x1), some (.int x2), some (.int x3)], [.int x2, .ref 13], (0, 0), hp)) rfl rfl ?_
        refine bs_ld (g := 149) 0 11 (0, 999) rfl H (bs_R.uq H (g := 149) rfl) (by decide) rfl (by decide) (by decide) rfl (by decide) (by omega) (by omega) fun z3 hz3 lz3 gz3 => ?_
        dsimp only at lz3 gz3
        refine Ev.step (j := 35) (s' := ([some (.ref 12), some (.int x1), some (.int x2), some (.int x3)], [.int x3, .int z3], (0, 0), hp)) rfl rfl ?_
        refine bs_ge rfl (fun c4 => ?_) (fun c4 => ?_)
        · skip
          refine bs_lit (k := 0) rfl rfl fun z5 hz5 => ?_
          refine Ev.ret rfl rfl ?_
          rw [← hQ1]
          refine (show Ev _ 7 ([some (.ref 12), some (.int x1), some (.int x2), some (.int x3), none], [.int z5], (0, 0), hp) _ from ?_)
          exact by
           refine Ev.step (j := 9) (s' := ([some (.ref 12), some (.int x1), some (.int x2), some (.int x3), some (.int z5)], [], (0, 0), hp)) rfl rfl ?_
           refine Ev.step (j := 11) (s' := ([some (.ref 12), some (.int x1), some (.int x2), some (.int x3), some (.int z5)], [.int z5], (0, 0), hp)) rfl rfl ?_
           refine bs_ifne rfl (fun c6 => ?_) (fun c6 => ?_)
           · exfalso; omega
           · skip
             refine Ev.step (j := 15) (s' := ([some (.ref 12), some (.int x1), some (.int x2), some (.int x3), some (.int z5)], [.ref 12], (0, 0), hp)) rfl rfl ?_
             refine Ev.step (j := 16) (s' := ([some (.ref 12), some (.int x1), some (.int x2), some (.int x3), some (.int z5)], [.int x1, .ref 12], (0, 0), hp)) rfl rfl ?_
             refine Ev.step (j := 17) (s' := ([some (.ref 12), some (.int x1), some (.int x2), some (.int x3), some (.int z5)], [.int x2, .int x1, .ref 12], (0, 0), hp)) rfl rfl ?_
             refine Ev.step (j := 18) (s' := ([some (.ref 12), some (.int x1), some (.int x2), some (.int x3), some (.int z5)], [.int x3, .int x2, .int x1, .ref 12], (0, 0), hp)) rfl rfl ?_
             refine Ev.inl (L := L_X6_perform) (nL := 4) rfl (bs_rcv (g := 6) H (bs_R.uq H (g := 6) rfl) (by decide) rfl) rfl (Nat.le_of_ble_eq_true rfl) ?_
             generalize hQ7 : (fun (o : ab_O) => Ev _ _ _ _) = Q7
             refine (show Ev (ab_T L_X6_perform) 0 ([some (.ref 12), some (.int x1), some (.int x2), some (.int x3)], [], (0, 0), hp) Q7 from ?_)
             exact by
              refine Ev.step (j := 1) (s' := ([some (.ref 12), some (.int x1), some (.int x2), some (.int x3)], [.int x1], (0, 0), hp)) rfl rfl ?_
              refine bs_lit (k := 3) rfl rfl fun z8 hz8 => ?_
              refine bs_ne rfl (fun c9 => ?_) (fun c9 => ?_)
              · skip
                refine Ev.step (j := 14) (s' := ([some (.ref 12), some (.int x1), some (.int x2), some (.int x3)], [.ref 12], (0, 0), hp)) rfl rfl ?_
                refine bs_getU (g := 6) (g1 := 149) rfl rfl H (bs_R.uq H (g := 6) rfl) (by decide) rfl rfl ?_
                refine Ev.step (j := 18) (s' := ([some (.ref 12), some (.int x1), some (.int x2), some (.int x3)], [.int x2, .ref 13], (0, 0), hp)) rfl rfl ?_
                refine Ev.step (j := 19) (s' := ([some (.ref 12), some (.int x1), some (.int x2), some (.int x3)], [.int x2, .ref 13, .int x2, .ref 13], (0, 0), hp)) rfl rfl ?_
                refine bs_ld (g := 149) 0 11 (0, 999) rfl H (bs_R.uq H (g := 149) rfl) (by decide) rfl (by decide) (by decide) rfl (by decide) (by omega) (by omega) fun z10 hz10 lz10 gz10 => ?_
                dsimp only at lz10 gz10
                have e11 : z10.toInt = z3.toInt := Option.some.inj (hz10.symm.trans hz3)
                refine Ev.step (j := 21) (s' := ([some (.ref 12), some (.int x1), some (.int x2), some (.int x3)], [.int x1, .int z10, .int x2, .ref 13], (0, 0), hp)) rfl rfl ?_
                exact by
                 refine bs_lit (k := 1) rfl rfl fun z12 hz12 => ?_
                 refine bs_ne rfl (fun c13 => ?_) (fun c13 => ?_)
                 · skip
                   refine Ev.step (j := 30) (s' := ([some (.ref 12), some (.int x1), some (.int x2), some (.int x3)], [.int x3, .int z10, .int x2, .ref 13], (0, 0), hp)) rfl rfl ?_
                   refine bs_neg rfl (by omega) fun z14 hz14 => ?_
                   first | (refine bs_add rfl (by omega) (by omega) fun z15 hz15 => ?_) | (refine bs_any rfl fun z15 => ?_)
                   have rz15 := n_range z15
                   refine bs_st (W := [(149, 0, 11)]) (g := 149) 0 11 (0, 999) rfl H (bs_R.uq H (g := 149) rfl) (by decide) rfl rfl (by decide) rfl rfl (by omega) (by omega) (by dsimp only; omega) (by dsimp only; omega) fun hp16 Hhp16 fhp16 rhp16 ehp16 qhp16 nhp16 => ?_
                   have Fhp16 := sf_fr_tr F0 (sf_fr_wider (W := [(149, 0, 11), (150, 0, 11), (153, 0, 7)]) rfl fhp16)
                   refine Ev.step (j := 34) (s' := ([some (.ref 12), some (.int x1), some (.int x2), some (.int x3)], [.int x1], (0, 0), hp16)) rfl rfl ?_
                   exact by
                    refine bs_ifne rfl (fun c17 => ?_) (fun c17 => ?_)
                    · exfalso; omega
                    · skip
                      refine Ev.step (j := 38) (s' := ([some (.ref 12), some (.int x1), some (.int x2), some (.int x3)], [.ref 12], (0, 0), hp16)) rfl rfl ?_
                      refine bs_getU (g := 6) (g1 := 150) rfl rfl Hhp16 (bs_R.uq Hhp16 (g := 6) rfl) (by decide) rfl rfl ?_
                      refine Ev.step (j := 42) (s' := ([some (.ref 12), some (.int x1), some (.int x2), some (.int x3)], [.int x2, .ref 14], (0, 0), hp16)) rfl rfl ?_
                      refine Ev.step (j := 43) (s' := ([some (.ref 12), some (.int x1), some (.int x2), some (.int x3)], [.int x2, .ref 14, .int x2, .ref 14], (0, 0), hp16)) rfl rfl ?_
                      refine bs_ld (g := 150) 0 11 (-2147483648, 2147483647) rfl Hhp16 (bs_R.uq Hhp16 (g := 150) rfl) (by decide) rfl (by decide) (by decide) rfl (by decide) (by omega) (by omega) fun z18 hz18 lz18 gz18 => ?_
                      dsimp only at lz18 gz18
                      refine Ev.step (j := 45) (s' := ([some (.ref 12), some (.int x1), some (.int x2), some (.int x3)], [.int x3, .int z18, .int x2, .ref 14], (0, 0), hp16)) rfl rfl ?_
                      first | (refine bs_add rfl (by omega) (by omega) fun z19 hz19 => ?_) | (refine bs_any rfl fun z19 => ?_)
                      have rz19 := n_range z19
                      refine bs_st (W := [(150, 0, 11)]) (g := 150) 0 11 (-2147483648, 2147483647) rfl Hhp16 (bs_R.uq Hhp16 (g := 150) rfl) (by decide) rfl rfl (by decide) rfl rfl (by omega) (by omega) (by dsimp only; omega) (by dsimp only; omega) fun hp20 Hhp20 fhp20 rhp20 ehp20 qhp20 nhp20 => ?_
                      have Fhp20 := sf_fr_tr Fhp16 (sf_fr_wider (W := [(149, 0, 11), (150, 0, 11), (153, 0, 7)]) rfl fhp20)
                      have h21 : sf_rd hp20 13 x2.toInt.toNat = some z15.toInt := (ehp20 _ _ (Or.inl (by decide))).trans rhp16
                      refine Ev.step (j := 65) (s' := ([some (.ref 12), some (.int x1), some (.int x2), some (.int x3)], [], (0, 0), hp20)) rfl rfl ?_
                      exact by
                       refine Ev.ret rfl rfl ?_
                       rw [← hQ7]
                       refine (show Ev _ 21 ([some (.ref 12), some (.int x1), some (.int x2), some (.int x3), some (.int z5)], [], (0, 0), hp20) _ from ?_)
                       refine Ev.step (j := 23) (s' := ([some (.ref 12), some (.int x1), some (.int x2), some (.int x3), some (.int z5)], [.int z5], (0, 0), hp20)) rfl rfl ?_
                       exact Ev.ret rfl rfl (by rw [hQ]; exact ⟨t, Hhp20, Fhp20, bs_an0, sf_S_cons (sf_s1 (x := z5.toInt) rfl (by omega) (by omega)) (sf_S_nil)⟩)
                 · exfalso; omega
              · exfalso; omega
        · skip
          refine bs_lit (k := 1) rfl rfl fun z22 hz22 => ?_
          exact by
           refine Ev.step (j := 43) (s' := ([some (.ref 12), some (.int x1), some (.int x2), some (.int x3)], [.int z22], (0, 0), hp)) rfl rfl ?_
           refine Ev.ret rfl rfl ?_
           rw [← hQ1]
           refine (show Ev _ 7 ([some (.ref 12), some (.int x1), some (.int x2), some (.int x3), none], [.int z22], (0, 0), hp) _ from ?_)
           refine Ev.step (j := 9) (s' := ([some (.ref 12), some (.int x1), some (.int x2), some (.int x3), some (.int z22)], [], (0, 0), hp)) rfl rfl ?_
           refine Ev.step (j := 11) (s' := ([some (.ref 12), some (.int x1), some (.int x2), some (.int x3), some (.int z22)], [.int z22], (0, 0), hp)) rfl rfl ?_
           refine bs_ifne rfl (fun c23 => ?_) (fun c23 => ?_)
           · skip
             refine Ev.step (j := 23) (s' := ([some (.ref 12), some (.int x1), some (.int x2), some (.int x3), some (.int z22)], [.int z22], (0, 0), hp)) rfl rfl ?_
             exact Ev.ret rfl rfl (by rw [hQ]; exact ⟨t, H, F0, bs_an0, sf_S_cons (sf_s1 (x := z22.toInt) rfl (by omega) (by omega)) (sf_S_nil)⟩)
           · exfalso; omega
     · refine bs_tab 1 rfl (by omega) rfl ?_
       refine Ev.step (j := 45) (s' := ([some (.ref 12), some (.int x1), some (.int x2), some (.int x3)], [.ref 12], (0, 0), hp)) rfl rfl ?_
       exact by
        refine bs_getU (g := 6) (g1 := 150) rfl rfl H (bs_R.uq H (g := 6) rfl) (by decide) rfl rfl ?_
        refine Ev.step (j := 49) (s' := ([some (.ref 12), some (.int x1), some (.int x2), some (.int x3)], [.int x2, .ref 14], (0, 0), hp)) rfl rfl ?_
        refine bs_ld (g := 150) 0 11 (-2147483648, 2147483647) rfl H (bs_R.uq H (g := 150) rfl) (by decide) rfl (by decide) (by decide) rfl (by decide) (by omega) (by omega) fun z24 hz24 lz24 gz24 => ?_
        dsimp only at lz24 gz24
        refine Ev.step (j := 51) (s' := ([some (.ref 12), some (.int x1), some (.int x2), some (.int x3)], [.int x3, .int z24], (0, 0), hp)) rfl rfl ?_
        refine bs_ge rfl (fun c25 => ?_) (fun c25 => ?_)
        · skip
          refine Ev.step (j := 59) (s' := ([some (.ref 12), some (.int x1), some (.int x2), some (.int x3)], [.ref 12], (0, 0), hp)) rfl rfl ?_
          refine bs_getU (g := 6) (g1 := 149) rfl rfl H (bs_R.uq H (g := 6) rfl) (by decide) rfl rfl ?_
          refine Ev.step (j := 63) (s' := ([some (.ref 12), some (.int x1), some (.int x2), some (.int x3)], [.int x2, .ref 13], (0, 0), hp)) rfl rfl ?_
          exact by
           refine bs_ld (g := 149) 0 11 (0, 999) rfl H (bs_R.uq H (g := 149) rfl) (by decide) rfl (by decide) (by decide) rfl (by decide) (by omega) (by omega) fun z26 hz26 lz26 gz26 => ?_
           dsimp only at lz26 gz26
           refine Ev.step (j := 65) (s' := ([some (.ref 12), some (.int x1), some (.int x2), some (.int x3)], [.int x3, .int z26], (0, 0), hp)) rfl rfl ?_
           first | (refine bs_add rfl (by omega) (by omega) fun z27 hz27 => ?_) | (refine bs_any rfl fun z27 => ?_)
           have rz27 := n_range z27
           refine bs_lit (k := 999) rfl rfl fun z28 hz28 => ?_
           refine bs_le rfl (fun c29 => ?_) (fun c29 => ?_)
           · skip
             refine bs_lit (k := 0) rfl rfl fun z30 hz30 => ?_
             refine Ev.ret rfl rfl ?_
             rw [← hQ1]
             refine (show Ev _ 7 ([some (.ref 12), some (.int x1), some (.int x2), some (.int x3), none], [.int z30], (0, 0), hp) _ from ?_)
             exact by
              refine Ev.step (j := 9) (s' := ([some (.ref 12), some (.int x1), some (.int x2), some (.int x3), some (.int z30)], [], (0, 0), hp)) rfl rfl ?_
              refine Ev.step (j := 11) (s' := ([some (.ref 12), some (.int x1), some (.int x2), some (.int x3), some (.int z30)], [.int z30], (0, 0), hp)) rfl rfl ?_
              refine bs_ifne rfl (fun c31 => ?_) (fun c31 => ?_)
              · exfalso; omega
              · skip
                refine Ev.step (j := 15) (s' := ([some (.ref 12), some (.int x1), some (.int x2), some (.int x3), some (.int z30)], [.ref 12], (0, 0), hp)) rfl rfl ?_
                refine Ev.step (j := 16) (s' := ([some (.ref 12), some (.int x1), some (.int x2), some (.int x3), some (.int z30)], [.int x1, .ref 12], (0, 0), hp)) rfl rfl ?_
                refine Ev.step (j := 17) (s' := ([some (.ref 12), some (.int x1), some (.int x2), some (.int x3), some (.int z30)], [.int x2, .int x1, .ref 12], (0, 0), hp)) rfl rfl ?_
                refine Ev.step (j := 18) (s' := ([some (.ref 12), some (.int x1), some (.int x2), some (.int x3), some (.int z30)], [.int x3, .int x2, .int x1, .ref 12], (0, 0), hp)) rfl rfl ?_
                refine Ev.inl (L := L_X6_perform) (nL := 4) rfl (bs_rcv (g := 6) H (bs_R.uq H (g := 6) rfl) (by decide) rfl) rfl (Nat.le_of_ble_eq_true rfl) ?_
                generalize hQ32 : (fun (o : ab_O) => Ev _ _ _ _) = Q32
                refine (show Ev (ab_T L_X6_perform) 0 ([some (.ref 12), some (.int x1), some (.int x2), some (.int x3)], [], (0, 0), hp) Q32 from ?_)
                exact by
                 refine Ev.step (j := 1) (s' := ([some (.ref 12), some (.int x1), some (.int x2), some (.int x3)], [.int x1], (0, 0), hp)) rfl rfl ?_
                 refine bs_lit (k := 3) rfl rfl fun z33 hz33 => ?_
                 refine bs_ne rfl (fun c34 => ?_) (fun c34 => ?_)
                 · skip
                   refine Ev.step (j := 14) (s' := ([some (.ref 12), some (.int x1), some (.int x2), some (.int x3)], [.ref 12], (0, 0), hp)) rfl rfl ?_
                   refine bs_getU (g := 6) (g1 := 149) rfl rfl H (bs_R.uq H (g := 6) rfl) (by decide) rfl rfl ?_
                   refine Ev.step (j := 18) (s' := ([some (.ref 12), some (.int x1), some (.int x2), some (.int x3)], [.int x2, .ref 13], (0, 0), hp)) rfl rfl ?_
                   refine Ev.step (j := 19) (s' := ([some (.ref 12), some (.int x1), some (.int x2), some (.int x3)], [.int x2, .ref 13, .int x2, .ref 13], (0, 0), hp)) rfl rfl ?_
                   refine bs_ld (g := 149) 0 11 (0, 999) rfl H (bs_R.uq H (g := 149) rfl) (by decide) rfl (by decide) (by decide) rfl (by decide) (by omega) (by omega) fun z35 hz35 lz35 gz35 => ?_
                   dsimp only at lz35 gz35
                   have e36 : z35.toInt = z26.toInt := Option.some.inj (hz35.symm.trans hz26)
                   refine Ev.step (j := 21) (s' := ([some (.ref 12), some (.int x1), some (.int x2), some (.int x3)], [.int x1, .int z35, .int x2, .ref 13], (0, 0), hp)) rfl rfl ?_
                   exact by
                    refine bs_lit (k := 1) rfl rfl fun z37 hz37 => ?_
                    refine bs_ne rfl (fun c38 => ?_) (fun c38 => ?_)
                    · exfalso; omega
                    · skip
                      refine Ev.step (j := 26) (s' := ([some (.ref 12), some (.int x1), some (.int x2), some (.int x3)], [.int x3, .int z35, .int x2, .ref 13], (0, 0), hp)) rfl rfl ?_
                      refine Ev.step (j := 31) (s' := ([some (.ref 12), some (.int x1), some (.int x2), some (.int x3)], [.int x3, .int z35, .int x2, .ref 13], (0, 0), hp)) rfl rfl ?_
                      first | (refine bs_add rfl (by omega) (by omega) fun z39 hz39 => ?_) | (refine bs_any rfl fun z39 => ?_)
                      have rz39 := n_range z39
                      refine bs_st (W := [(149, 0, 11)]) (g := 149) 0 11 (0, 999) rfl H (bs_R.uq H (g := 149) rfl) (by decide) rfl rfl (by decide) rfl rfl (by omega) (by omega) (by dsimp only; omega) (by dsimp only; omega) fun hp40 Hhp40 fhp40 rhp40 ehp40 qhp40 nhp40 => ?_
                      have Fhp40 := sf_fr_tr F0 (sf_fr_wider (W := [(149, 0, 11), (150, 0, 11), (153, 0, 7)]) rfl fhp40)
                      have h41 : sf_rd hp40 14 x2.toInt.toNat = some z24.toInt := (ehp40 _ _ (Or.inl (by decide))).trans hz24
                      refine Ev.step (j := 34) (s' := ([some (.ref 12), some (.int x1), some (.int x2), some (.int x3)], [.int x1], (0, 0), hp40)) rfl rfl ?_
                      exact by
                       refine bs_ifne rfl (fun c42 => ?_) (fun c42 => ?_)
                       · skip
                         refine Ev.step (j := 51) (s' := ([some (.ref 12), some (.int x1), some (.int x2), some (.int x3)], [.int x1], (0, 0), hp40)) rfl rfl ?_
                         refine bs_lit (k := 1) rfl rfl fun z43 hz43 => ?_
                         refine bs_ne rfl (fun c44 => ?_) (fun c44 => ?_)
                         · exfalso; omega
                         · skip
                           refine Ev.step (j := 56) (s' := ([some (.ref 12), some (.int x1), some (.int x2), some (.int x3)], [.ref 12], (0, 0), hp40)) rfl rfl ?_
                           refine bs_getU (g := 6) (g1 := 150) rfl rfl Hhp40 (bs_R.uq Hhp40 (g := 6) rfl) (by decide) rfl rfl ?_
                           refine Ev.step (j := 60) (s' := ([some (.ref 12), some (.int x1), some (.int x2), some (.int x3)], [.int x2, .ref 14], (0, 0), hp40)) rfl rfl ?_
                           refine Ev.step (j := 61) (s' := ([some (.ref 12), some (.int x1), some (.int x2), some (.int x3)], [.int x2, .ref 14, .int x2, .ref 14], (0, 0), hp40)) rfl rfl ?_
                           exact by
                            refine bs_ld (g := 150) 0 11 (-2147483648, 2147483647) rfl Hhp40 (bs_R.uq Hhp40 (g := 150) rfl) (by decide) rfl (by decide) (by decide) rfl (by decide) (by omega) (by omega) fun z45 hz45 lz45 gz45 => ?_
                            dsimp only at lz45 gz45
                            have e46 : z45.toInt = z24.toInt := Option.some.inj (hz45.symm.trans h41)
                            refine Ev.step (j := 63) (s' := ([some (.ref 12), some (.int x1), some (.int x2), some (.int x3)], [.int x3, .int z45, .int x2, .ref 14], (0, 0), hp40)) rfl rfl ?_
                            first | (refine bs_sub rfl (by omega) (by omega) fun z47 hz47 => ?_) | (refine bs_any rfl fun z47 => ?_)
                            have rz47 := n_range z47
                            refine bs_st (W := [(150, 0, 11)]) (g := 150) 0 11 (-2147483648, 2147483647) rfl Hhp40 (bs_R.uq Hhp40 (g := 150) rfl) (by decide) rfl rfl (by decide) rfl rfl (by omega) (by omega) (by dsimp only; omega) (by dsimp only; omega) fun hp48 Hhp48 fhp48 rhp48 ehp48 qhp48 nhp48 => ?_
                            have Fhp48 := sf_fr_tr Fhp40 (sf_fr_wider (W := [(149, 0, 11), (150, 0, 11), (153, 0, 7)]) rfl fhp48)
                            have h49 : sf_rd hp48 13 x2.toInt.toNat = some z39.toInt := (ehp48 _ _ (Or.inl (by decide))).trans rhp40
                            refine Ev.ret rfl rfl ?_
                            rw [← hQ32]
                            refine (show Ev _ 21 ([some (.ref 12), some (.int x1), some (.int x2), some (.int x3), some (.int z30)], [], (0, 0), hp48) _ from ?_)
                            exact by
                             refine Ev.step (j := 23) (s' := ([some (.ref 12), some (.int x1), some (.int x2), some (.int x3), some (.int z30)], [.int z30], (0, 0), hp48)) rfl rfl ?_
                             exact Ev.ret rfl rfl (by rw [hQ]; exact ⟨t, Hhp48, Fhp48, bs_an0, sf_S_cons (sf_s1 (x := z30.toInt) rfl (by omega) (by omega)) (sf_S_nil)⟩)
                       · exfalso; omega
                 · exfalso; omega
           · skip
             refine bs_lit (k := 2) rfl rfl fun z50 hz50 => ?_
             exact by
              refine Ev.step (j := 77) (s' := ([some (.ref 12), some (.int x1), some (.int x2), some (.int x3)], [.int z50], (0, 0), hp)) rfl rfl ?_
              refine Ev.ret rfl rfl ?_
              rw [← hQ1]
              refine (show Ev _ 7 ([some (.ref 12), some (.int x1), some (.int x2), some (.int x3), none], [.int z50], (0, 0), hp) _ from ?_)
              refine Ev.step (j := 9) (s' := ([some (.ref 12), some (.int x1), some (.int x2), some (.int x3), some (.int z50)], [], (0, 0), hp)) rfl rfl ?_
              refine Ev.step (j := 11) (s' := ([some (.ref 12), some (.int x1), some (.int x2), some (.int x3), some (.int z50)], [.int z50], (0, 0), hp)) rfl rfl ?_
              refine bs_ifne rfl (fun c51 => ?_) (fun c51 => ?_)
              · skip
                refine Ev.step (j := 23) (s' := ([some (.ref 12), some (.int x1), some (.int x2), some (.int x3), some (.int z50)], [.int z50], (0, 0), hp)) rfl rfl ?_
                exact Ev.ret rfl rfl (by rw [hQ]; exact ⟨t, H, F0, bs_an0, sf_S_cons (sf_s1 (x := z50.toInt) rfl (by omega) (by omega)) (sf_S_nil)⟩)
              · exfalso; omega
        · skip
          refine bs_lit (k := 1) rfl rfl fun z52 hz52 => ?_
          exact by
           refine Ev.step (j := 77) (s' := ([some (.ref 12), some (.int x1), some (.int x2), some (.int x3)], [.int z52], (0, 0), hp)) rfl rfl ?_
           refine Ev.ret rfl rfl ?_
           rw [← hQ1]
           refine (show Ev _ 7 ([some (.ref 12), some (.int x1), some (.int x2), some (.int x3), none], [.int z52], (0, 0), hp) _ from ?_)
           refine Ev.step (j := 9) (s' := ([some (.ref 12), some (.int x1), some (.int x2), some (.int x3), some (.int z52)], [], (0, 0), hp)) rfl rfl ?_
           refine Ev.step (j := 11) (s' := ([some (.ref 12), some (.int x1), some (.int x2), some (.int x3), some (.int z52)], [.int z52], (0, 0), hp)) rfl rfl ?_
           refine bs_ifne rfl (fun c53 => ?_) (fun c53 => ?_)
           · skip
             refine Ev.step (j := 23) (s' := ([some (.ref 12), some (.int x1), some (.int x2), some (.int x3), some (.int z52)], [.int z52], (0, 0), hp)) rfl rfl ?_
             exact Ev.ret rfl rfl (by rw [hQ]; exact ⟨t, H, F0, bs_an0, sf_S_cons (sf_s1 (x := z52.toInt) rfl (by omega) (by omega)) (sf_S_nil)⟩)
           · exfalso; omega
     · refine bs_tab 2 rfl (by omega) rfl ?_
       refine Ev.step (j := 79) (s' := ([some (.ref 12), some (.int x1), some (.int x2), some (.int x3)], [.ref 12], (0, 0), hp)) rfl rfl ?_
       exact by
        refine bs_getU (g := 6) (g1 := 149) rfl rfl H (bs_R.uq H (g := 6) rfl) (by decide) rfl rfl ?_
        refine Ev.step (j := 83) (s' := ([some (.ref 12), some (.int x1), some (.int x2), some (.int x3)], [.int x2, .ref 13], (0, 0), hp)) rfl rfl ?_
        refine bs_ld (g := 149) 0 11 (0, 999) rfl H (bs_R.uq H (g := 149) rfl) (by decide) rfl (by decide) (by decide) rfl (by decide) (by omega) (by omega) fun z54 hz54 lz54 gz54 => ?_
        dsimp only at lz54 gz54
        refine Ev.step (j := 85) (s' := ([some (.ref 12), some (.int x1), some (.int x2), some (.int x3)], [.int x3, .int z54], (0, 0), hp)) rfl rfl ?_
        refine bs_ge rfl (fun c55 => ?_) (fun c55 => ?_)
        · skip
          refine bs_lit (k := 0) rfl rfl fun z56 hz56 => ?_
          refine Ev.ret rfl rfl ?_
          rw [← hQ1]
          refine (show Ev _ 7 ([some (.ref 12), some (.int x1), some (.int x2), some (.int x3), none], [.int z56], (0, 0), hp) _ from ?_)
          exact by
           refine Ev.step (j := 9) (s' := ([some (.ref 12), some (.int x1), some (.int x2), some (.int x3), some (.int z56)], [], (0, 0), hp)) rfl rfl ?_
           refine Ev.step (j := 11) (s' := ([some (.ref 12), some (.int x1), some (.int x2), some (.int x3), some (.int z56)], [.int z56], (0, 0), hp)) rfl rfl ?_
           refine bs_ifne rfl (fun c57 => ?_) (fun c57 => ?_)
           · exfalso; omega
           · skip
             refine Ev.step (j := 15) (s' := ([some (.ref 12), some (.int x1), some (.int x2), some (.int x3), some (.int z56)], [.ref 12], (0, 0), hp)) rfl rfl ?_
             refine Ev.step (j := 16) (s' := ([some (.ref 12), some (.int x1), some (.int x2), some (.int x3), some (.int z56)], [.int x1, .ref 12], (0, 0), hp)) rfl rfl ?_
             refine Ev.step (j := 17) (s' := ([some (.ref 12), some (.int x1), some (.int x2), some (.int x3), some (.int z56)], [.int x2, .int x1, .ref 12], (0, 0), hp)) rfl rfl ?_
             refine Ev.step (j := 18) (s' := ([some (.ref 12), some (.int x1), some (.int x2), some (.int x3), some (.int z56)], [.int x3, .int x2, .int x1, .ref 12], (0, 0), hp)) rfl rfl ?_
             refine Ev.inl (L := L_X6_perform) (nL := 4) rfl (bs_rcv (g := 6) H (bs_R.uq H (g := 6) rfl) (by decide) rfl) rfl (Nat.le_of_ble_eq_true rfl) ?_
             generalize hQ58 : (fun (o : ab_O) => Ev _ _ _ _) = Q58
             refine (show Ev (ab_T L_X6_perform) 0 ([some (.ref 12), some (.int x1), some (.int x2), some (.int x3)], [], (0, 0), hp) Q58 from ?_)
             exact by
              refine Ev.step (j := 1) (s' := ([some (.ref 12), some (.int x1), some (.int x2), some (.int x3)], [.int x1], (0, 0), hp)) rfl rfl ?_
              refine bs_lit (k := 3) rfl rfl fun z59 hz59 => ?_
              refine bs_ne rfl (fun c60 => ?_) (fun c60 => ?_)
              · skip
                refine Ev.step (j := 14) (s' := ([some (.ref 12), some (.int x1), some (.int x2), some (.int x3)], [.ref 12], (0, 0), hp)) rfl rfl ?_
                refine bs_getU (g := 6) (g1 := 149) rfl rfl H (bs_R.uq H (g := 6) rfl) (by decide) rfl rfl ?_
                refine Ev.step (j := 18) (s' := ([some (.ref 12), some (.int x1), some (.int x2), some (.int x3)], [.int x2, .ref 13], (0, 0), hp)) rfl rfl ?_
                refine Ev.step (j := 19) (s' := ([some (.ref 12), some (.int x1), some (.int x2), some (.int x3)], [.int x2, .ref 13, .int x2, .ref 13], (0, 0), hp)) rfl rfl ?_
                refine bs_ld (g := 149) 0 11 (0, 999) rfl H (bs_R.uq H (g := 149) rfl) (by decide) rfl (by decide) (by decide) rfl (by decide) (by omega) (by omega) fun z61 hz61 lz61 gz61 => ?_
                dsimp only at lz61 gz61
                have e62 : z61.toInt = z54.toInt := Option.some.inj (hz61.symm.trans hz54)
                refine Ev.step (j := 21) (s' := ([some (.ref 12), some (.int x1), some (.int x2), some (.int x3)], [.int x1, .int z61, .int x2, .ref 13], (0, 0), hp)) rfl rfl ?_
                exact by
                 refine bs_lit (k := 1) rfl rfl fun z63 hz63 => ?_
                 refine bs_ne rfl (fun c64 => ?_) (fun c64 => ?_)
                 · skip
                   refine Ev.step (j := 30) (s' := ([some (.ref 12), some (.int x1), some (.int x2), some (.int x3)], [.int x3, .int z61, .int x2, .ref 13], (0, 0), hp)) rfl rfl ?_
                   refine bs_neg rfl (by omega) fun z65 hz65 => ?_
                   first | (refine bs_add rfl (by omega) (by omega) fun z66 hz66 => ?_) | (refine bs_any rfl fun z66 => ?_)
                   have rz66 := n_range z66
                   refine bs_st (W := [(149, 0, 11)]) (g := 149) 0 11 (0, 999) rfl H (bs_R.uq H (g := 149) rfl) (by decide) rfl rfl (by decide) rfl rfl (by omega) (by omega) (by dsimp only; omega) (by dsimp only; omega) fun hp67 Hhp67 fhp67 rhp67 ehp67 qhp67 nhp67 => ?_
                   have Fhp67 := sf_fr_tr F0 (sf_fr_wider (W := [(149, 0, 11), (150, 0, 11), (153, 0, 7)]) rfl fhp67)
                   refine Ev.step (j := 34) (s' := ([some (.ref 12), some (.int x1), some (.int x2), some (.int x3)], [.int x1], (0, 0), hp67)) rfl rfl ?_
                   exact by
                    refine bs_ifne rfl (fun c68 => ?_) (fun c68 => ?_)
                    · skip
                      refine Ev.step (j := 51) (s' := ([some (.ref 12), some (.int x1), some (.int x2), some (.int x3)], [.int x1], (0, 0), hp67)) rfl rfl ?_
                      refine bs_lit (k := 1) rfl rfl fun z69 hz69 => ?_
                      refine bs_ne rfl (fun c70 => ?_) (fun c70 => ?_)
                      · skip
                        refine Ev.ret rfl rfl ?_
                        rw [← hQ58]
                        refine (show Ev _ 21 ([some (.ref 12), some (.int x1), some (.int x2), some (.int x3), some (.int z56)], [], (0, 0), hp67) _ from ?_)
                        refine Ev.step (j := 23) (s' := ([some (.ref 12), some (.int x1), some (.int x2), some (.int x3), some (.int z56)], [.int z56], (0, 0), hp67)) rfl rfl ?_
                        exact Ev.ret rfl rfl (by rw [hQ]; exact ⟨t, Hhp67, Fhp67, bs_an0, sf_S_cons (sf_s1 (x := z56.toInt) rfl (by omega) (by omega)) (sf_S_nil)⟩)
                      · exfalso; omega
                    · exfalso; omega
                 · exfalso; omega
              · exfalso; omega
        · skip
          refine bs_lit (k := 1) rfl rfl fun z71 hz71 => ?_
          exact by
           refine Ev.step (j := 93) (s' := ([some (.ref 12), some (.int x1), some (.int x2), some (.int x3)], [.int z71], (0, 0), hp)) rfl rfl ?_
           refine Ev.ret rfl rfl ?_
           rw [← hQ1]
           refine (show Ev _ 7 ([some (.ref 12), some (.int x1), some (.int x2), some (.int x3), none], [.int z71], (0, 0), hp) _ from ?_)
           refine Ev.step (j := 9) (s' := ([some (.ref 12), some (.int x1), some (.int x2), some (.int x3), some (.int z71)], [], (0, 0), hp)) rfl rfl ?_
           refine Ev.step (j := 11) (s' := ([some (.ref 12), some (.int x1), some (.int x2), some (.int x3), some (.int z71)], [.int z71], (0, 0), hp)) rfl rfl ?_
           refine bs_ifne rfl (fun c72 => ?_) (fun c72 => ?_)
           · skip
             refine Ev.step (j := 23) (s' := ([some (.ref 12), some (.int x1), some (.int x2), some (.int x3), some (.int z71)], [.int z71], (0, 0), hp)) rfl rfl ?_
             exact Ev.ret rfl rfl (by rw [hQ]; exact ⟨t, H, F0, bs_an0, sf_S_cons (sf_s1 (x := z71.toInt) rfl (by omega) (by omega)) (sf_S_nil)⟩)
           · exfalso; omega
def kq_X6_attempt_6d : sf_Q := ([(1, 6, 0), (0, 0, 0), (0, 0, 0), (0, 0, 0)], [(1, 3, 0, 3, 3, 0), (1, 6, 0, 0, 7, 0), (1, 9, 0, 0, 0, 0)], some (0, 0, 0), [(1, 0, 0, 0, 2, 0)], [(149, 0, 11), (150, 0, 11), (153, 0, 7)])
set_option maxRecDepth 100000 in
set_option maxHeartbeats 4000000 in
theorem ct_X6_attempt_6d : sf_ct kq_X6_attempt_6d Z_X6_attempt := by
  intro t hp as H hl hj hpre
  match as, hl with
  | [v0, v1, v2, v3], _ =>
    obtain ⟨a0, rfl, ra0⟩ := bs_aR (hj 0 _ rfl)
    obtain rfl := ra0.eq H (p := 12) rfl
    obtain ⟨x1, rfl⟩ := bs_aI (hj 1 _ rfl)
    have rg1 := n_range x1
    obtain ⟨x2, rfl⟩ := bs_aI (hj 2 _ rfl)
    have rg2 := n_range x2
    obtain ⟨x3, rfl⟩ := bs_aI (hj 3 _ rfl)
    have rg3 := n_range x3
    obtain ⟨pl0, ph0⟩ := bs_s1 (x := x1.toInt) rfl (hpre _ (List.mem_of_getElem? (i := 0) rfl))
    obtain ⟨pl1, ph1⟩ := bs_s1 (x := x2.toInt) rfl (hpre _ (List.mem_of_getElem? (i := 1) rfl))
    obtain ⟨pl2, ph2⟩ := bs_s1 (x := x3.toInt) rfl (hpre _ (List.mem_of_getElem? (i := 2) rfl))
    clear hpre hj
    have F0 : sf_fr [(149, 0, 11), (150, 0, 11), (153, 0, 7)] t hp t hp := sf_fr_rf
    refine bs_fin (K := kq_X6_attempt_6d) (L := (L_X6_attempt Z_X6_whyNot Z_X6_perform)) (nL := 5) (Nat.le_of_ble_eq_true rfl) ?_
    obtain ⟨Q, hQ⟩ : ∃ Q : ab_O → Prop, Q = (fun o => ∃ t', sf_h t' o.2 ∧ sf_fr (kq_X6_attempt_6d).2.2.2.2 t hp t' o.2 ∧ sf_an t' o.2.1 (kq_X6_attempt_6d).2.2.1 o.1 ∧ sf_S (sf_v1 o.1 [.ref 12, .int x1, .int x2, .int x3] o.2) (kq_X6_attempt_6d).2.2.2.1) := ⟨_, rfl⟩
    rw [← hQ]
    refine (show Ev (ab_T (L_X6_attempt Z_X6_whyNot Z_X6_perform)) 0 ([some (.ref 12), some (.int x1), some (.int x2), some (.int x3), none], [], (0, 0), hp) Q from ?_)
    exact by
     refine Ev.step (j := 1) (s' := ([some (.ref 12), some (.int x1), some (.int x2), some (.int x3), none], [.ref 12], (0, 0), hp)) rfl rfl ?_
     refine Ev.step (j := 2) (s' := ([some (.ref 12), some (.int x1), some (.int x2), some (.int x3), none], [.int x1, .ref 12], (0, 0), hp)) rfl rfl ?_
     refine Ev.step (j := 3) (s' := ([some (.ref 12), some (.int x1), some (.int x2), some (.int x3), none], [.int x2, .int x1, .ref 12], (0, 0), hp)) rfl rfl ?_
     refine Ev.step (j := 4) (s' := ([some (.ref 12), some (.int x1), some (.int x2), some (.int x3), none], [.int x3, .int x2, .int x1, .ref 12], (0, 0), hp)) rfl rfl ?_
     refine Ev.inl (L := (L_X6_whyNot Z_X6_isAlive)) (nL := 4) rfl (bs_rcv (g := 6) H (bs_R.uq H (g := 6) rfl) (by decide) rfl) rfl (Nat.le_of_ble_eq_true rfl) ?_
     generalize hQ1 : (fun (o : ab_O) => Ev _ _ _ _) = Q1
     refine (show Ev (ab_T (L_X6_whyNot Z_X6_isAlive)) 0 ([some (.ref 12), some (.int x1), some (.int x2), some (.int x3)], [], (0, 0), hp) Q1 from ?_)
     refine Ev.step (j := 1) (s' := ([some (.ref 12), some (.int x1), some (.int x2), some (.int x3)], [.int x1], (0, 0), hp)) rfl rfl ?_
     rcases (show x1.toInt = 3 by omega) with c2
     · refine bs_tabD rfl (by show _ ∨ _ + ((3 : Nat) : Int) ≤ _; omega) ?_
       refine Ev.step (j := 95) (s' := ([some (.ref 12), some (.int x1), some (.int x2), some (.int x3)], [.ref 12], (0, 0), hp)) rfl rfl ?_
       exact by
        refine Ev.step (j := 96) (s' := ([some (.ref 12), some (.int x1), some (.int x2), some (.int x3)], [.int x2, .ref 12], (0, 0), hp)) rfl rfl ?_
        refine Ev.inl (L := L_X6_isAlive) (nL := 2) rfl (bs_rcv (g := 6) H (bs_R.uq H (g := 6) rfl) (by decide) rfl) rfl (Nat.le_of_ble_eq_true rfl) ?_
        generalize hQ3 : (fun (o : ab_O) => Ev _ _ _ _) = Q3
        refine (show Ev (ab_T L_X6_isAlive) 0 ([some (.ref 12), some (.int x2)], [], (0, 0), hp) Q3 from ?_)
        refine Ev.step (j := 1) (s' := ([some (.ref 12), some (.int x2)], [.ref 12], (0, 0), hp)) rfl rfl ?_
        refine bs_getU (g := 6) (g1 := 153) rfl rfl H (bs_R.uq H (g := 6) rfl) (by decide) rfl rfl ?_
        refine Ev.step (j := 5) (s' := ([some (.ref 12), some (.int x2)], [.int x2, .ref 17], (0, 0), hp)) rfl rfl ?_
        refine bs_ld (g := 153) 0 7 (-2147483648, 2147483647) rfl H (bs_R.uq H (g := 153) rfl) (by decide) rfl (by decide) (by decide) rfl (by decide) (by omega) (by omega) fun z4 hz4 lz4 gz4 => ?_
        dsimp only at lz4 gz4
        refine bs_lit (k := -1) rfl rfl fun z5 hz5 => ?_
        exact by
         refine bs_eq rfl (fun c6 => ?_) (fun c6 => ?_)
         · skip
           have c7 : z4.toInt = -1 := by omega
           refine bs_lit (k := 0) rfl rfl fun z8 hz8 => ?_
           refine bs_zret rfl rfl (by omega) (by omega) ?_
           rw [← hQ3]
           refine (show Ev _ 99 ([some (.ref 12), some (.int x1), some (.int x2), some (.int x3)], [.int z8], (0, 0), hp) _ from ?_)
           refine bs_ifeq rfl (fun c9 => ?_) (fun c9 => ?_)
           · skip
             refine bs_lit (k := 1) rfl rfl fun z10 hz10 => ?_
             refine Ev.ret rfl rfl ?_
             rw [← hQ1]
             refine (show Ev _ 7 ([some (.ref 12), some (.int x1), some (.int x2), some (.int x3), none], [.int z10], (0, 0), hp) _ from ?_)
             exact by
              refine Ev.step (j := 9) (s' := ([some (.ref 12), some (.int x1), some (.int x2), some (.int x3), some (.int z10)], [], (0, 0), hp)) rfl rfl ?_
              refine Ev.step (j := 11) (s' := ([some (.ref 12), some (.int x1), some (.int x2), some (.int x3), some (.int z10)], [.int z10], (0, 0), hp)) rfl rfl ?_
              refine bs_ifne rfl (fun c11 => ?_) (fun c11 => ?_)
              · skip
                refine Ev.step (j := 23) (s' := ([some (.ref 12), some (.int x1), some (.int x2), some (.int x3), some (.int z10)], [.int z10], (0, 0), hp)) rfl rfl ?_
                exact Ev.ret rfl rfl (by rw [hQ]; exact ⟨t, H, F0, bs_an0, sf_S_cons (sf_s1 (x := z10.toInt) rfl (by omega) (by omega)) (sf_S_nil)⟩)
              · exfalso; omega
           · exfalso; omega
         · skip
           refine bs_lit (k := 1) rfl rfl fun z12 hz12 => ?_
           exact by
            refine Ev.step (j := 15) (s' := ([some (.ref 12), some (.int x2)], [.int z12], (0, 0), hp)) rfl rfl ?_
            refine bs_zret rfl rfl (by omega) (by omega) ?_
            rw [← hQ3]
            refine (show Ev _ 99 ([some (.ref 12), some (.int x1), some (.int x2), some (.int x3)], [.int z12], (0, 0), hp) _ from ?_)
            refine bs_ifeq rfl (fun c13 => ?_) (fun c13 => ?_)
            · exfalso; omega
            · skip
              refine bs_lit (k := 0) rfl rfl fun z14 hz14 => ?_
              refine Ev.step (j := 107) (s' := ([some (.ref 12), some (.int x1), some (.int x2), some (.int x3)], [.int z14], (0, 0), hp)) rfl rfl ?_
              refine Ev.ret rfl rfl ?_
              rw [← hQ1]
              refine (show Ev _ 7 ([some (.ref 12), some (.int x1), some (.int x2), some (.int x3), none], [.int z14], (0, 0), hp) _ from ?_)
              exact by
               refine Ev.step (j := 9) (s' := ([some (.ref 12), some (.int x1), some (.int x2), some (.int x3), some (.int z14)], [], (0, 0), hp)) rfl rfl ?_
               refine Ev.step (j := 11) (s' := ([some (.ref 12), some (.int x1), some (.int x2), some (.int x3), some (.int z14)], [.int z14], (0, 0), hp)) rfl rfl ?_
               refine bs_ifne rfl (fun c15 => ?_) (fun c15 => ?_)
               · exfalso; omega
               · skip
                 refine Ev.step (j := 15) (s' := ([some (.ref 12), some (.int x1), some (.int x2), some (.int x3), some (.int z14)], [.ref 12], (0, 0), hp)) rfl rfl ?_
                 refine Ev.step (j := 16) (s' := ([some (.ref 12), some (.int x1), some (.int x2), some (.int x3), some (.int z14)], [.int x1, .ref 12], (0, 0), hp)) rfl rfl ?_
                 refine Ev.step (j := 17) (s' := ([some (.ref 12), some (.int x1), some (.int x2), some (.int x3), some (.int z14)], [.int x2, .int x1, .ref 12], (0, 0), hp)) rfl rfl ?_
                 refine Ev.step (j := 18) (s' := ([some (.ref 12), some (.int x1), some (.int x2), some (.int x3), some (.int z14)], [.int x3, .int x2, .int x1, .ref 12], (0, 0), hp)) rfl rfl ?_
                 refine Ev.inl (L := L_X6_perform) (nL := 4) rfl (bs_rcv (g := 6) H (bs_R.uq H (g := 6) rfl) (by decide) rfl) rfl (Nat.le_of_ble_eq_true rfl) ?_
                 generalize hQ16 : (fun (o : ab_O) => Ev _ _ _ _) = Q16
                 refine (show Ev (ab_T L_X6_perform) 0 ([some (.ref 12), some (.int x1), some (.int x2), some (.int x3)], [], (0, 0), hp) Q16 from ?_)
                 exact by
                  refine Ev.step (j := 1) (s' := ([some (.ref 12), some (.int x1), some (.int x2), some (.int x3)], [.int x1], (0, 0), hp)) rfl rfl ?_
                  refine bs_lit (k := 3) rfl rfl fun z17 hz17 => ?_
                  refine bs_ne rfl (fun c18 => ?_) (fun c18 => ?_)
                  · exfalso; omega
                  · skip
                    refine Ev.step (j := 6) (s' := ([some (.ref 12), some (.int x1), some (.int x2), some (.int x3)], [.ref 12], (0, 0), hp)) rfl rfl ?_
                    refine bs_getU (g := 6) (g1 := 153) rfl rfl H (bs_R.uq H (g := 6) rfl) (by decide) rfl rfl ?_
                    refine Ev.step (j := 10) (s' := ([some (.ref 12), some (.int x1), some (.int x2), some (.int x3)], [.int x2, .ref 17], (0, 0), hp)) rfl rfl ?_
                    refine bs_lit (k := -1) rfl rfl fun z19 hz19 => ?_
                    refine bs_st (W := [(153, 0, 7)]) (g := 153) 0 7 (-2147483648, 2147483647) rfl H (bs_R.uq H (g := 153) rfl) (by decide) rfl rfl (by decide) rfl rfl (by omega) (by omega) (by dsimp only; omega) (by dsimp only; omega) fun hp20 Hhp20 fhp20 rhp20 ehp20 qhp20 nhp20 => ?_
                    have Fhp20 := sf_fr_tr F0 (sf_fr_wider (W := [(149, 0, 11), (150, 0, 11), (153, 0, 7)]) rfl fhp20)
                    refine Ev.ret rfl rfl ?_
                    rw [← hQ16]
                    refine (show Ev _ 21 ([some (.ref 12), some (.int x1), some (.int x2), some (.int x3), some (.int z14)], [], (0, 0), hp20) _ from ?_)
                    exact by
                     refine Ev.step (j := 23) (s' := ([some (.ref 12), some (.int x1), some (.int x2), some (.int x3), some (.int z14)], [.int z14], (0, 0), hp20)) rfl rfl ?_
                     exact Ev.ret rfl rfl (by rw [hQ]; exact ⟨t, Hhp20, Fhp20, bs_an0, sf_S_cons (sf_s1 (x := z14.toInt) rfl (by omega) (by omega)) (sf_S_nil)⟩)
def kq_X6_attempt_13g : sf_Q := ([(1, 13, 0), (0, 0, 0), (0, 0, 0), (0, 0, 0)], [(1, 3, 0, 0, 2, 0), (1, 6, 0, 0, 11, 0), (1, 9, 0, 1, 250, 0)], some (0, 0, 0), [(1, 0, 0, 0, 2, 0)], [(156, 0, 11), (157, 0, 11), (160, 0, 7)])
set_option maxRecDepth 100000 in
set_option maxHeartbeats 4000000 in
theorem ct_X6_attempt_13g : sf_ct kq_X6_attempt_13g Z_X6_attempt := by
  intro t hp as H hl hj hpre
  match as, hl with
  | [v0, v1, v2, v3], _ =>
    obtain ⟨a0, rfl, ra0⟩ := bs_aR (hj 0 _ rfl)
    obtain rfl := ra0.eq H (p := 20) rfl
    obtain ⟨x1, rfl⟩ := bs_aI (hj 1 _ rfl)
    have rg1 := n_range x1
    obtain ⟨x2, rfl⟩ := bs_aI (hj 2 _ rfl)
    have rg2 := n_range x2
    obtain ⟨x3, rfl⟩ := bs_aI (hj 3 _ rfl)
    have rg3 := n_range x3
    obtain ⟨pl0, ph0⟩ := bs_s1 (x := x1.toInt) rfl (hpre _ (List.mem_of_getElem? (i := 0) rfl))
    obtain ⟨pl1, ph1⟩ := bs_s1 (x := x2.toInt) rfl (hpre _ (List.mem_of_getElem? (i := 1) rfl))
    obtain ⟨pl2, ph2⟩ := bs_s1 (x := x3.toInt) rfl (hpre _ (List.mem_of_getElem? (i := 2) rfl))
    clear hpre hj
    have F0 : sf_fr [(156, 0, 11), (157, 0, 11), (160, 0, 7)] t hp t hp := sf_fr_rf
    refine bs_fin (K := kq_X6_attempt_13g) (L := (L_X6_attempt Z_X6_whyNot Z_X6_perform)) (nL := 5) (Nat.le_of_ble_eq_true rfl) ?_
    obtain ⟨Q, hQ⟩ : ∃ Q : ab_O → Prop, Q = (fun o => ∃ t', sf_h t' o.2 ∧ sf_fr (kq_X6_attempt_13g).2.2.2.2 t hp t' o.2 ∧ sf_an t' o.2.1 (kq_X6_attempt_13g).2.2.1 o.1 ∧ sf_S (sf_v1 o.1 [.ref 20, .int x1, .int x2, .int x3] o.2) (kq_X6_attempt_13g).2.2.2.1) := ⟨_, rfl⟩
    rw [← hQ]
    refine (show Ev (ab_T (L_X6_attempt Z_X6_whyNot Z_X6_perform)) 0 ([some (.ref 20), some (.int x1), some (.int x2), some (.int x3), none], [], (0, 0), hp) Q from ?_)
    exact by
     refine Ev.step (j := 1) (s' := ([some (.ref 20), some (.int x1), some (.int x2), some (.int x3), none], [.ref 20], (0, 0), hp)) rfl rfl ?_
     refine Ev.step (j := 2) (s' := ([some (.ref 20), some (.int x1), some (.int x2), some (.int x3), none], [.int x1, .ref 20], (0, 0), hp)) rfl rfl ?_
     refine Ev.step (j := 3) (s' := ([some (.ref 20), some (.int x1), some (.int x2), some (.int x3), none], [.int x2, .int x1, .ref 20], (0, 0), hp)) rfl rfl ?_
     refine Ev.step (j := 4) (s' := ([some (.ref 20), some (.int x1), some (.int x2), some (.int x3), none], [.int x3, .int x2, .int x1, .ref 20], (0, 0), hp)) rfl rfl ?_
     refine Ev.inl (L := (L_X6_whyNot Z_X6_isAlive)) (nL := 4) rfl (bs_rcv (g := 13) H (bs_R.uq H (g := 13) rfl) (by decide) rfl) rfl (Nat.le_of_ble_eq_true rfl) ?_
     generalize hQ1 : (fun (o : ab_O) => Ev _ _ _ _) = Q1
     refine (show Ev (ab_T (L_X6_whyNot Z_X6_isAlive)) 0 ([some (.ref 20), some (.int x1), some (.int x2), some (.int x3)], [], (0, 0), hp) Q1 from ?_)
     refine Ev.step (j := 1) (s' := ([some (.ref 20), some (.int x1), some (.int x2), some (.int x3)], [.int x1], (0, 0), hp)) rfl rfl ?_
     rcases (show x1.toInt = 0 ∨ x1.toInt = 1 ∨ x1.toInt = 2 by omega) with c2 | c2 | c2
     · refine bs_tab 0 rfl (by omega) rfl ?_
       refine Ev.step (j := 29) (s' := ([some (.ref 20), some (.int x1), some (.int x2), some (.int x3)], [.ref 20], (0, 0), hp)) rfl rfl ?_
       exact by
        refine bs_getU (g := 13) (g1 := 156) rfl rfl H (bs_R.uq H (g := 13) rfl) (by decide) rfl rfl ?_
        refine Ev.step (j := 33) (s' := ([some (.ref 20), some (.int x1), some (.int x2), some (.int x3)], [.int x2, .ref 21], (0, 0), hp)) rfl rfl ?_
        refine bs_ld (g := 156) 0 11 (0, 999) rfl H (bs_R.uq H (g := 156) rfl) (by decide) rfl (by decide) (by decide) rfl (by decide) (by omega) (by omega) fun z3 hz3 lz3 gz3 => ?_
        dsimp only at lz3 gz3
        refine Ev.step (j := 35) (s' := ([some (.ref 20), some (.int x1), some (.int x2), some (.int x3)], [.int x3, .int z3], (0, 0), hp)) rfl rfl ?_
        refine bs_ge rfl (fun c4 => ?_) (fun c4 => ?_)
        · skip
          refine bs_lit (k := 0) rfl rfl fun z5 hz5 => ?_
          refine Ev.ret rfl rfl ?_
          rw [← hQ1]
          refine (show Ev _ 7 ([some (.ref 20), some (.int x1), some (.int x2), some (.int x3), none], [.int z5], (0, 0), hp) _ from ?_)
          exact by
           refine Ev.step (j := 9) (s' := ([some (.ref 20), some (.int x1), some (.int x2), some (.int x3), some (.int z5)], [], (0, 0), hp)) rfl rfl ?_
           refine Ev.step (j := 11) (s' := ([some (.ref 20), some (.int x1), some (.int x2), some (.int x3), some (.int z5)], [.int z5], (0, 0), hp)) rfl rfl ?_
           refine bs_ifne rfl (fun c6 => ?_) (fun c6 => ?_)
           · exfalso; omega
           · skip
             refine Ev.step (j := 15) (s' := ([some (.ref 20), some (.int x1), some (.int x2), some (.int x3), some (.int z5)], [.ref 20], (0, 0), hp)) rfl rfl ?_
             refine Ev.step (j := 16) (s' := ([some (.ref 20), some (.int x1), some (.int x2), some (.int x3), some (.int z5)], [.int x1, .ref 20], (0, 0), hp)) rfl rfl ?_
             refine Ev.step (j := 17) (s' := ([some (.ref 20), some (.int x1), some (.int x2), some (.int x3), some (.int z5)], [.int x2, .int x1, .ref 20], (0, 0), hp)) rfl rfl ?_
             refine Ev.step (j := 18) (s' := ([some (.ref 20), some (.int x1), some (.int x2), some (.int x3), some (.int z5)], [.int x3, .int x2, .int x1, .ref 20], (0, 0), hp)) rfl rfl ?_
             refine Ev.inl (L := L_X6_perform) (nL := 4) rfl (bs_rcv (g := 13) H (bs_R.uq H (g := 13) rfl) (by decide) rfl) rfl (Nat.le_of_ble_eq_true rfl) ?_
             generalize hQ7 : (fun (o : ab_O) => Ev _ _ _ _) = Q7
             refine (show Ev (ab_T L_X6_perform) 0 ([some (.ref 20), some (.int x1), some (.int x2), some (.int x3)], [], (0, 0), hp) Q7 from ?_)
             exact by
              refine Ev.step (j := 1) (s' := ([some (.ref 20), some (.int x1), some (.int x2), some (.int x3)], [.int x1], (0, 0), hp)) rfl rfl ?_
              refine bs_lit (k := 3) rfl rfl fun z8 hz8 => ?_
              refine bs_ne rfl (fun c9 => ?_) (fun c9 => ?_)
              · skip
                refine Ev.step (j := 14) (s' := ([some (.ref 20), some (.int x1), some (.int x2), some (.int x3)], [.ref 20], (0, 0), hp)) rfl rfl ?_
                refine bs_getU (g := 13) (g1 := 156) rfl rfl H (bs_R.uq H (g := 13) rfl) (by decide) rfl rfl ?_
                refine Ev.step (j := 18) (s' := ([some (.ref 20), some (.int x1), some (.int x2), some (.int x3)], [.int x2, .ref 21], (0, 0), hp)) rfl rfl ?_
                refine Ev.step (j := 19) (s' := ([some (.ref 20), some (.int x1), some (.int x2), some (.int x3)], [.int x2, .ref 21, .int x2, .ref 21], (0, 0), hp)) rfl rfl ?_
                refine bs_ld (g := 156) 0 11 (0, 999) rfl H (bs_R.uq H (g := 156) rfl) (by decide) rfl (by decide) (by decide) rfl (by decide) (by omega) (by omega) fun z10 hz10 lz10 gz10 => ?_
                dsimp only at lz10 gz10
                have e11 : z10.toInt = z3.toInt := Option.some.inj (hz10.symm.trans hz3)
                refine Ev.step (j := 21) (s' := ([some (.ref 20), some (.int x1), some (.int x2), some (.int x3)], [.int x1, .int z10, .int x2, .ref 21], (0, 0), hp)) rfl rfl ?_
                exact by
                 refine bs_lit (k := 1) rfl rfl fun z12 hz12 => ?_
                 refine bs_ne rfl (fun c13 => ?_) (fun c13 => ?_)
                 · skip
                   refine Ev.step (j := 30) (s' := ([some (.ref 20), some (.int x1), some (.int x2), some (.int x3)], [.int x3, .int z10, .int x2, .ref 21], (0, 0), hp)) rfl rfl ?_
                   refine bs_neg rfl (by omega) fun z14 hz14 => ?_
                   first | (refine bs_add rfl (by omega) (by omega) fun z15 hz15 => ?_) | (refine bs_any rfl fun z15 => ?_)
                   have rz15 := n_range z15
                   refine bs_st (W := [(156, 0, 11)]) (g := 156) 0 11 (0, 999) rfl H (bs_R.uq H (g := 156) rfl) (by decide) rfl rfl (by decide) rfl rfl (by omega) (by omega) (by dsimp only; omega) (by dsimp only; omega) fun hp16 Hhp16 fhp16 rhp16 ehp16 qhp16 nhp16 => ?_
                   have Fhp16 := sf_fr_tr F0 (sf_fr_wider (W := [(156, 0, 11), (157, 0, 11), (160, 0, 7)]) rfl fhp16)
                   refine Ev.step (j := 34) (s' := ([some (.ref 20), some (.int x1), some (.int x2), some (.int x3)], [.int x1], (0, 0), hp16)) rfl rfl ?_
                   exact by
                    refine bs_ifne rfl (fun c17 => ?_) (fun c17 => ?_)
                    · exfalso; omega
                    · skip
                      refine Ev.step (j := 38) (s' := ([some (.ref 20), some (.int x1), some (.int x2), some (.int x3)], [.ref 20], (0, 0), hp16)) rfl rfl ?_
                      refine bs_getU (g := 13) (g1 := 157) rfl rfl Hhp16 (bs_R.uq Hhp16 (g := 13) rfl) (by decide) rfl rfl ?_
                      refine Ev.step (j := 42) (s' := ([some (.ref 20), some (.int x1), some (.int x2), some (.int x3)], [.int x2, .ref 22], (0, 0), hp16)) rfl rfl ?_
                      refine Ev.step (j := 43) (s' := ([some (.ref 20), some (.int x1), some (.int x2), some (.int x3)], [.int x2, .ref 22, .int x2, .ref 22], (0, 0), hp16)) rfl rfl ?_
                      refine bs_ld (g := 157) 0 11 (-2147483648, 2147483647) rfl Hhp16 (bs_R.uq Hhp16 (g := 157) rfl) (by decide) rfl (by decide) (by decide) rfl (by decide) (by omega) (by omega) fun z18 hz18 lz18 gz18 => ?_
                      dsimp only at lz18 gz18
                      refine Ev.step (j := 45) (s' := ([some (.ref 20), some (.int x1), some (.int x2), some (.int x3)], [.int x3, .int z18, .int x2, .ref 22], (0, 0), hp16)) rfl rfl ?_
                      first | (refine bs_add rfl (by omega) (by omega) fun z19 hz19 => ?_) | (refine bs_any rfl fun z19 => ?_)
                      have rz19 := n_range z19
                      refine bs_st (W := [(157, 0, 11)]) (g := 157) 0 11 (-2147483648, 2147483647) rfl Hhp16 (bs_R.uq Hhp16 (g := 157) rfl) (by decide) rfl rfl (by decide) rfl rfl (by omega) (by omega) (by dsimp only; omega) (by dsimp only; omega) fun hp20 Hhp20 fhp20 rhp20 ehp20 qhp20 nhp20 => ?_
                      have Fhp20 := sf_fr_tr Fhp16 (sf_fr_wider (W := [(156, 0, 11), (157, 0, 11), (160, 0, 7)]) rfl fhp20)
                      have h21 : sf_rd hp20 21 x2.toInt.toNat = some z15.toInt := (ehp20 _ _ (Or.inl (by decide))).trans rhp16
                      refine Ev.step (j := 65) (s' := ([some (.ref 20), some (.int x1), some (.int x2), some (.int x3)], [], (0, 0), hp20)) rfl rfl ?_
                      exact by
                       refine Ev.ret rfl rfl ?_
                       rw [← hQ7]
                       refine (show Ev _ 21 ([some (.ref 20), some (.int x1), some (.int x2), some (.int x3), some (.int z5)], [], (0, 0), hp20) _ from ?_)
                       refine Ev.step (j := 23) (s' := ([some (.ref 20), some (.int x1), some (.int x2), some (.int x3), some (.int z5)], [.int z5], (0, 0), hp20)) rfl rfl ?_
                       exact Ev.ret rfl rfl (by rw [hQ]; exact ⟨t, Hhp20, Fhp20, bs_an0, sf_S_cons (sf_s1 (x := z5.toInt) rfl (by omega) (by omega)) (sf_S_nil)⟩)
                 · exfalso; omega
              · exfalso; omega
        · skip
          refine bs_lit (k := 1) rfl rfl fun z22 hz22 => ?_
          exact by
           refine Ev.step (j := 43) (s' := ([some (.ref 20), some (.int x1), some (.int x2), some (.int x3)], [.int z22], (0, 0), hp)) rfl rfl ?_
           refine Ev.ret rfl rfl ?_
           rw [← hQ1]
           refine (show Ev _ 7 ([some (.ref 20), some (.int x1), some (.int x2), some (.int x3), none], [.int z22], (0, 0), hp) _ from ?_)
           refine Ev.step (j := 9) (s' := ([some (.ref 20), some (.int x1), some (.int x2), some (.int x3), some (.int z22)], [], (0, 0), hp)) rfl rfl ?_
           refine Ev.step (j := 11) (s' := ([some (.ref 20), some (.int x1), some (.int x2), some (.int x3), some (.int z22)], [.int z22], (0, 0), hp)) rfl rfl ?_
           refine bs_ifne rfl (fun c23 => ?_) (fun c23 => ?_)
           · skip
             refine Ev.step (j := 23) (s' := ([some (.ref 20), some (.int x1), some (.int x2), some (.int x3), some (.int z22)], [.int z22], (0, 0), hp)) rfl rfl ?_
             exact Ev.ret rfl rfl (by rw [hQ]; exact ⟨t, H, F0, bs_an0, sf_S_cons (sf_s1 (x := z22.toInt) rfl (by omega) (by omega)) (sf_S_nil)⟩)
           · exfalso; omega
     · refine bs_tab 1 rfl (by omega) rfl ?_
       refine Ev.step (j := 45) (s' := ([some (.ref 20), some (.int x1), some (.int x2), some (.int x3)], [.ref 20], (0, 0), hp)) rfl rfl ?_
       exact by
        refine bs_getU (g := 13) (g1 := 157) rfl rfl H (bs_R.uq H (g := 13) rfl) (by decide) rfl rfl ?_
        refine Ev.step (j := 49) (s' := ([some (.ref 20), some (.int x1), some (.int x2), some (.int x3)], [.int x2, .ref 22], (0, 0), hp)) rfl rfl ?_
        refine bs_ld (g := 157) 0 11 (-2147483648, 2147483647) rfl H (bs_R.uq H (g := 157) rfl) (by decide) rfl (by decide) (by decide) rfl (by decide) (by omega) (by omega) fun z24 hz24 lz24 gz24 => ?_
        dsimp only at lz24 gz24
        refine Ev.step (j := 51) (s' := ([some (.ref 20), some (.int x1), some (.int x2), some (.int x3)], [.int x3, .int z24], (0, 0), hp)) rfl rfl ?_
        refine bs_ge rfl (fun c25 => ?_) (fun c25 => ?_)
        · skip
          refine Ev.step (j := 59) (s' := ([some (.ref 20), some (.int x1), some (.int x2), some (.int x3)], [.ref 20], (0, 0), hp)) rfl rfl ?_
          refine bs_getU (g := 13) (g1 := 156) rfl rfl H (bs_R.uq H (g := 13) rfl) (by decide) rfl rfl ?_
          refine Ev.step (j := 63) (s' := ([some (.ref 20), some (.int x1), some (.int x2), some (.int x3)], [.int x2, .ref 21], (0, 0), hp)) rfl rfl ?_
          exact by
           refine bs_ld (g := 156) 0 11 (0, 999) rfl H (bs_R.uq H (g := 156) rfl) (by decide) rfl (by decide) (by decide) rfl (by decide) (by omega) (by omega) fun z26 hz26 lz26 gz26 => ?_
           dsimp only at lz26 gz26
           refine Ev.step (j := 65) (s' := ([some (.ref 20), some (.int x1), some (.int x2), some (.int x3)], [.int x3, .int z26], (0, 0), hp)) rfl rfl ?_
           first | (refine bs_add rfl (by omega) (by omega) fun z27 hz27 => ?_) | (refine bs_any rfl fun z27 => ?_)
           have rz27 := n_range z27
           refine bs_lit (k := 999) rfl rfl fun z28 hz28 => ?_
           refine bs_le rfl (fun c29 => ?_) (fun c29 => ?_)
           · skip
             refine bs_lit (k := 0) rfl rfl fun z30 hz30 => ?_
             refine Ev.ret rfl rfl ?_
             rw [← hQ1]
             refine (show Ev _ 7 ([some (.ref 20), some (.int x1), some (.int x2), some (.int x3), none], [.int z30], (0, 0), hp) _ from ?_)
             exact by
              refine Ev.step (j := 9) (s' := ([some (.ref 20), some (.int x1), some (.int x2), some (.int x3), some (.int z30)], [], (0, 0), hp)) rfl rfl ?_
              refine Ev.step (j := 11) (s' := ([some (.ref 20), some (.int x1), some (.int x2), some (.int x3), some (.int z30)], [.int z30], (0, 0), hp)) rfl rfl ?_
              refine bs_ifne rfl (fun c31 => ?_) (fun c31 => ?_)
              · exfalso; omega
              · skip
                refine Ev.step (j := 15) (s' := ([some (.ref 20), some (.int x1), some (.int x2), some (.int x3), some (.int z30)], [.ref 20], (0, 0), hp)) rfl rfl ?_
                refine Ev.step (j := 16) (s' := ([some (.ref 20), some (.int x1), some (.int x2), some (.int x3), some (.int z30)], [.int x1, .ref 20], (0, 0), hp)) rfl rfl ?_
                refine Ev.step (j := 17) (s' := ([some (.ref 20), some (.int x1), some (.int x2), some (.int x3), some (.int z30)], [.int x2, .int x1, .ref 20], (0, 0), hp)) rfl rfl ?_
                refine Ev.step (j := 18) (s' := ([some (.ref 20), some (.int x1), some (.int x2), some (.int x3), some (.int z30)], [.int x3, .int x2, .int x1, .ref 20], (0, 0), hp)) rfl rfl ?_
                refine Ev.inl (L := L_X6_perform) (nL := 4) rfl (bs_rcv (g := 13) H (bs_R.uq H (g := 13) rfl) (by decide) rfl) rfl (Nat.le_of_ble_eq_true rfl) ?_
                generalize hQ32 : (fun (o : ab_O) => Ev _ _ _ _) = Q32
                refine (show Ev (ab_T L_X6_perform) 0 ([some (.ref 20), some (.int x1), some (.int x2), some (.int x3)], [], (0, 0), hp) Q32 from ?_)
                exact by
                 refine Ev.step (j := 1) (s' := ([some (.ref 20), some (.int x1), some (.int x2), some (.int x3)], [.int x1], (0, 0), hp)) rfl rfl ?_
                 refine bs_lit (k := 3) rfl rfl fun z33 hz33 => ?_
                 refine bs_ne rfl (fun c34 => ?_) (fun c34 => ?_)
                 · skip
                   refine Ev.step (j := 14) (s' := ([some (.ref 20), some (.int x1), some (.int x2), some (.int x3)], [.ref 20], (0, 0), hp)) rfl rfl ?_
                   refine bs_getU (g := 13) (g1 := 156) rfl rfl H (bs_R.uq H (g := 13) rfl) (by decide) rfl rfl ?_
                   refine Ev.step (j := 18) (s' := ([some (.ref 20), some (.int x1), some (.int x2), some (.int x3)], [.int x2, .ref 21], (0, 0), hp)) rfl rfl ?_
                   refine Ev.step (j := 19) (s' := ([some (.ref 20), some (.int x1), some (.int x2), some (.int x3)], [.int x2, .ref 21, .int x2, .ref 21], (0, 0), hp)) rfl rfl ?_
                   refine bs_ld (g := 156) 0 11 (0, 999) rfl H (bs_R.uq H (g := 156) rfl) (by decide) rfl (by decide) (by decide) rfl (by decide) (by omega) (by omega) fun z35 hz35 lz35 gz35 => ?_
                   dsimp only at lz35 gz35
                   have e36 : z35.toInt = z26.toInt := Option.some.inj (hz35.symm.trans hz26)
                   refine Ev.step (j := 21) (s' := ([some (.ref 20), some (.int x1), some (.int x2), some (.int x3)], [.int x1, .int z35, .int x2, .ref 21], (0, 0), hp)) rfl rfl ?_
                   exact by
                    refine bs_lit (k := 1) rfl rfl fun z37 hz37 => ?_
                    refine bs_ne rfl (fun c38 => ?_) (fun c38 => ?_)
                    · exfalso; omega
                    · skip
                      refine Ev.step (j := 26) (s' := ([some (.ref 20), some (.int x1), some (.int x2), some (.int x3)], [.int x3, .int z35, .int x2, .ref 21], (0, 0), hp)) rfl rfl ?_
                      refine Ev.step (j := 31) (s' := ([some (.ref 20), some (.int x1), some (.int x2), some (.int x3)], [.int x3, .int z35, .int x2, .ref 21], (0, 0), hp)) rfl rfl ?_
                      first | (refine bs_add rfl (by omega) (by omega) fun z39 hz39 => ?_) | (refine bs_any rfl fun z39 => ?_)
                      have rz39 := n_range z39
                      refine bs_st (W := [(156, 0, 11)]) (g := 156) 0 11 (0, 999) rfl H (bs_R.uq H (g := 156) rfl) (by decide) rfl rfl (by decide) rfl rfl (by omega) (by omega) (by dsimp only; omega) (by dsimp only; omega) fun hp40 Hhp40 fhp40 rhp40 ehp40 qhp40 nhp40 => ?_
                      have Fhp40 := sf_fr_tr F0 (sf_fr_wider (W := [(156, 0, 11), (157, 0, 11), (160, 0, 7)]) rfl fhp40)
                      have h41 : sf_rd hp40 22 x2.toInt.toNat = some z24.toInt := (ehp40 _ _ (Or.inl (by decide))).trans hz24
                      refine Ev.step (j := 34) (s' := ([some (.ref 20), some (.int x1), some (.int x2), some (.int x3)], [.int x1], (0, 0), hp40)) rfl rfl ?_
                      exact by
                       refine bs_ifne rfl (fun c42 => ?_) (fun c42 => ?_)
                       · skip
                         refine Ev.step (j := 51) (s' := ([some (.ref 20), some (.int x1), some (.int x2), some (.int x3)], [.int x1], (0, 0), hp40)) rfl rfl ?_
                         refine bs_lit (k := 1) rfl rfl fun z43 hz43 => ?_
                         refine bs_ne rfl (fun c44 => ?_) (fun c44 => ?_)
                         · exfalso; omega
                         · skip
                           refine Ev.step (j := 56) (s' := ([some (.ref 20), some (.int x1), some (.int x2), some (.int x3)], [.ref 20], (0, 0), hp40)) rfl rfl ?_
                           refine bs_getU (g := 13) (g1 := 157) rfl rfl Hhp40 (bs_R.uq Hhp40 (g := 13) rfl) (by decide) rfl rfl ?_
                           refine Ev.step (j := 60) (s' := ([some (.ref 20), some (.int x1), some (.int x2), some (.int x3)], [.int x2, .ref 22], (0, 0), hp40)) rfl rfl ?_
                           refine Ev.step (j := 61) (s' := ([some (.ref 20), some (.int x1), some (.int x2), some (.int x3)], [.int x2, .ref 22, .int x2, .ref 22], (0, 0), hp40)) rfl rfl ?_
                           exact by
                            refine bs_ld (g := 157) 0 11 (-2147483648, 2147483647) rfl Hhp40 (bs_R.uq Hhp40 (g := 157) rfl) (by decide) rfl (by decide) (by decide) rfl (by decide) (by omega) (by omega) fun z45 hz45 lz45 gz45 => ?_
                            dsimp only at lz45 gz45
                            have e46 : z45.toInt = z24.toInt := Option.some.inj (hz45.symm.trans h41)
                            refine Ev.step (j := 63) (s' := ([some (.ref 20), some (.int x1), some (.int x2), some (.int x3)], [.int x3, .int z45, .int x2, .ref 22], (0, 0), hp40)) rfl rfl ?_
                            first | (refine bs_sub rfl (by omega) (by omega) fun z47 hz47 => ?_) | (refine bs_any rfl fun z47 => ?_)
                            have rz47 := n_range z47
                            refine bs_st (W := [(157, 0, 11)]) (g := 157) 0 11 (-2147483648, 2147483647) rfl Hhp40 (bs_R.uq Hhp40 (g := 157) rfl) (by decide) rfl rfl (by decide) rfl rfl (by omega) (by omega) (by dsimp only; omega) (by dsimp only; omega) fun hp48 Hhp48 fhp48 rhp48 ehp48 qhp48 nhp48 => ?_
                            have Fhp48 := sf_fr_tr Fhp40 (sf_fr_wider (W := [(156, 0, 11), (157, 0, 11), (160, 0, 7)]) rfl fhp48)
                            have h49 : sf_rd hp48 21 x2.toInt.toNat = some z39.toInt := (ehp48 _ _ (Or.inl (by decide))).trans rhp40
                            refine Ev.ret rfl rfl ?_
                            rw [← hQ32]
                            refine (show Ev _ 21 ([some (.ref 20), some (.int x1), some (.int x2), some (.int x3), some (.int z30)], [], (0, 0), hp48) _ from ?_)
                            exact by
                             refine Ev.step (j := 23) (s' := ([some (.ref 20), some (.int x1), some (.int x2), some (.int x3), some (.int z30)], [.int z30], (0, 0), hp48)) rfl rfl ?_
                             exact Ev.ret rfl rfl (by rw [hQ]; exact ⟨t, Hhp48, Fhp48, bs_an0, sf_S_cons (sf_s1 (x := z30.toInt) rfl (by omega) (by omega)) (sf_S_nil)⟩)
                       · exfalso; omega
                 · exfalso; omega
           · skip
             refine bs_lit (k := 2) rfl rfl fun z50 hz50 => ?_
             exact by
              refine Ev.step (j := 77) (s' := ([some (.ref 20), some (.int x1), some (.int x2), some (.int x3)], [.int z50], (0, 0), hp)) rfl rfl ?_
              refine Ev.ret rfl rfl ?_
              rw [← hQ1]
              refine (show Ev _ 7 ([some (.ref 20), some (.int x1), some (.int x2), some (.int x3), none], [.int z50], (0, 0), hp) _ from ?_)
              refine Ev.step (j := 9) (s' := ([some (.ref 20), some (.int x1), some (.int x2), some (.int x3), some (.int z50)], [], (0, 0), hp)) rfl rfl ?_
              refine Ev.step (j := 11) (s' := ([some (.ref 20), some (.int x1), some (.int x2), some (.int x3), some (.int z50)], [.int z50], (0, 0), hp)) rfl rfl ?_
              refine bs_ifne rfl (fun c51 => ?_) (fun c51 => ?_)
              · skip
                refine Ev.step (j := 23) (s' := ([some (.ref 20), some (.int x1), some (.int x2), some (.int x3), some (.int z50)], [.int z50], (0, 0), hp)) rfl rfl ?_
                exact Ev.ret rfl rfl (by rw [hQ]; exact ⟨t, H, F0, bs_an0, sf_S_cons (sf_s1 (x := z50.toInt) rfl (by omega) (by omega)) (sf_S_nil)⟩)
              · exfalso; omega
        · skip
          refine bs_lit (k := 1) rfl rfl fun z52 hz52 => ?_
          exact by
           refine Ev.step (j := 77) (s' := ([some (.ref 20), some (.int x1), some (.int x2), some (.int x3)], [.int z52], (0, 0), hp)) rfl rfl ?_
           refine Ev.ret rfl rfl ?_
           rw [← hQ1]
           refine (show Ev _ 7 ([some (.ref 20), some (.int x1), some (.int x2), some (.int x3), none], [.int z52], (0, 0), hp) _ from ?_)
           refine Ev.step (j := 9) (s' := ([some (.ref 20), some (.int x1), some (.int x2), some (.int x3), some (.int z52)], [], (0, 0), hp)) rfl rfl ?_
           refine Ev.step (j := 11) (s' := ([some (.ref 20), some (.int x1), some (.int x2), some (.int x3), some (.int z52)], [.int z52], (0, 0), hp)) rfl rfl ?_
           refine bs_ifne rfl (fun c53 => ?_) (fun c53 => ?_)
           · skip
             refine Ev.step (j := 23) (s' := ([some (.ref 20), some (.int x1), some (.int x2), some (.int x3), some (.int z52)], [.int z52], (0, 0), hp)) rfl rfl ?_
             exact Ev.ret rfl rfl (by rw [hQ]; exact ⟨t, H, F0, bs_an0, sf_S_cons (sf_s1 (x := z52.toInt) rfl (by omega) (by omega)) (sf_S_nil)⟩)
           · exfalso; omega
     · refine bs_tab 2 rfl (by omega) rfl ?_
       refine Ev.step (j := 79) (s' := ([some (.ref 20), some (.int x1), some (.int x2), some (.int x3)], [.ref 20], (0, 0), hp)) rfl rfl ?_
       exact by
        refine bs_getU (g := 13) (g1 := 156) rfl rfl H (bs_R.uq H (g := 13) rfl) (by decide) rfl rfl ?_
        refine Ev.step (j := 83) (s' := ([some (.ref 20), some (.int x1), some (.int x2), some (.int x3)], [.int x2, .ref 21], (0, 0), hp)) rfl rfl ?_
        refine bs_ld (g := 156) 0 11 (0, 999) rfl H (bs_R.uq H (g := 156) rfl) (by decide) rfl (by decide) (by decide) rfl (by decide) (by omega) (by omega) fun z54 hz54 lz54 gz54 => ?_
        dsimp only at lz54 gz54
        refine Ev.step (j := 85) (s' := ([some (.ref 20), some (.int x1), some (.int x2), some (.int x3)], [.int x3, .int z54], (0, 0), hp)) rfl rfl ?_
        refine bs_ge rfl (fun c55 => ?_) (fun c55 => ?_)
        · skip
          refine bs_lit (k := 0) rfl rfl fun z56 hz56 => ?_
          refine Ev.ret rfl rfl ?_
          rw [← hQ1]
          refine (show Ev _ 7 ([some (.ref 20), some (.int x1), some (.int x2), some (.int x3), none], [.int z56], (0, 0), hp) _ from ?_)
          exact by
           refine Ev.step (j := 9) (s' := ([some (.ref 20), some (.int x1), some (.int x2), some (.int x3), some (.int z56)], [], (0, 0), hp)) rfl rfl ?_
           refine Ev.step (j := 11) (s' := ([some (.ref 20), some (.int x1), some (.int x2), some (.int x3), some (.int z56)], [.int z56], (0, 0), hp)) rfl rfl ?_
           refine bs_ifne rfl (fun c57 => ?_) (fun c57 => ?_)
           · exfalso; omega
           · skip
             refine Ev.step (j := 15) (s' := ([some (.ref 20), some (.int x1), some (.int x2), some (.int x3), some (.int z56)], [.ref 20], (0, 0), hp)) rfl rfl ?_
             refine Ev.step (j := 16) (s' := ([some (.ref 20), some (.int x1), some (.int x2), some (.int x3), some (.int z56)], [.int x1, .ref 20], (0, 0), hp)) rfl rfl ?_
             refine Ev.step (j := 17) (s' := ([some (.ref 20), some (.int x1), some (.int x2), some (.int x3), some (.int z56)], [.int x2, .int x1, .ref 20], (0, 0), hp)) rfl rfl ?_
             refine Ev.step (j := 18) (s' := ([some (.ref 20), some (.int x1), some (.int x2), some (.int x3), some (.int z56)], [.int x3, .int x2, .int x1, .ref 20], (0, 0), hp)) rfl rfl ?_
             refine Ev.inl (L := L_X6_perform) (nL := 4) rfl (bs_rcv (g := 13) H (bs_R.uq H (g := 13) rfl) (by decide) rfl) rfl (Nat.le_of_ble_eq_true rfl) ?_
             generalize hQ58 : (fun (o : ab_O) => Ev _ _ _ _) = Q58
             refine (show Ev (ab_T L_X6_perform) 0 ([some (.ref 20), some (.int x1), some (.int x2), some (.int x3)], [], (0, 0), hp) Q58 from ?_)
             exact by
              refine Ev.step (j := 1) (s' := ([some (.ref 20), some (.int x1), some (.int x2), some (.int x3)], [.int x1], (0, 0), hp)) rfl rfl ?_
              refine bs_lit (k := 3) rfl rfl fun z59 hz59 => ?_
              refine bs_ne rfl (fun c60 => ?_) (fun c60 => ?_)
              · skip
                refine Ev.step (j := 14) (s' := ([some (.ref 20), some (.int x1), some (.int x2), some (.int x3)], [.ref 20], (0, 0), hp)) rfl rfl ?_
                refine bs_getU (g := 13) (g1 := 156) rfl rfl H (bs_R.uq H (g := 13) rfl) (by decide) rfl rfl ?_
                refine Ev.step (j := 18) (s' := ([some (.ref 20), some (.int x1), some (.int x2), some (.int x3)], [.int x2, .ref 21], (0, 0), hp)) rfl rfl ?_
                refine Ev.step (j := 19) (s' := ([some (.ref 20), some (.int x1), some (.int x2), some (.int x3)], [.int x2, .ref 21, .int x2, .ref 21], (0, 0), hp)) rfl rfl ?_
                refine bs_ld (g := 156) 0 11 (0, 999) rfl H (bs_R.uq H (g := 156) rfl) (by decide) rfl (by decide) (by decide) rfl (by decide) (by omega) (by omega) fun z61 hz61 lz61 gz61 => ?_
                dsimp only at lz61 gz61
                have e62 : z61.toInt = z54.toInt := Option.some.inj (hz61.symm.trans hz54)
                refine Ev.step (j := 21) (s' := ([some (.ref 20), some (.int x1), some (.int x2), some (.int x3)], [.int x1, .int z61, .int x2, .ref 21], (0, 0), hp)) rfl rfl ?_
                exact by
                 refine bs_lit (k := 1) rfl rfl fun z63 hz63 => ?_
                 refine bs_ne rfl (fun c64 => ?_) (fun c64 => ?_)
                 · skip
                   refine Ev.step (j := 30) (s' := ([some (.ref 20), some (.int x1), some (.int x2), some (.int x3)], [.int x3, .int z61, .int x2, .ref 21], (0, 0), hp)) rfl rfl ?_
                   refine bs_neg rfl (by omega) fun z65 hz65 => ?_
                   first | (refine bs_add rfl (by omega) (by omega) fun z66 hz66 => ?_) | (refine bs_any rfl fun z66 => ?_)
                   have rz66 := n_range z66
                   refine bs_st (W := [(156, 0, 11)]) (g := 156) 0 11 (0, 999) rfl H (bs_R.uq H (g := 156) rfl) (by decide) rfl rfl (by decide) rfl rfl (by omega) (by omega) (by dsimp only; omega) (by dsimp only; omega) fun hp67 Hhp67 fhp67 rhp67 ehp67 qhp67 nhp67 => ?_
                   have Fhp67 := sf_fr_tr F0 (sf_fr_wider (W := [(156, 0, 11), (157, 0, 11), (160, 0, 7)]) rfl fhp67)
                   refine Ev.step (j := 34) (s' := ([some (.ref 20), some (.int x1), some (.int x2), some (.int x3)], [.int x1], (0, 0), hp67)) rfl rfl ?_
                   exact by
                    refine bs_ifne rfl (fun c68 => ?_) (fun c68 => ?_)
                    · skip
                      refine Ev.step (j := 51) (s' := ([some (.ref 20), some (.int x1), some (.int x2), some (.int x3)], [.int x1], (0, 0), hp67)) rfl rfl ?_
                      refine bs_lit (k := 1) rfl rfl fun z69 hz69 => ?_
                      refine bs_ne rfl (fun c70 => ?_) (fun c70 => ?_)
                      · skip
                        refine Ev.ret rfl rfl ?_
                        rw [← hQ58]
                        refine (show Ev _ 21 ([some (.ref 20), some (.int x1), some (.int x2), some (.int x3), some (.int z56)], [], (0, 0), hp67) _ from ?_)
                        refine Ev.step (j := 23) (s' := ([some (.ref 20), some (.int x1), some (.int x2), some (.int x3), some (.int z56)], [.int z56], (0, 0), hp67)) rfl rfl ?_
                        exact Ev.ret rfl rfl (by rw [hQ]; exact ⟨t, Hhp67, Fhp67, bs_an0, sf_S_cons (sf_s1 (x := z56.toInt) rfl (by omega) (by omega)) (sf_S_nil)⟩)
                      · exfalso; omega
                    · exfalso; omega
                 · exfalso; omega
              · exfalso; omega
        · skip
          refine bs_lit (k := 1) rfl rfl fun z71 hz71 => ?_
          exact by
           refine Ev.step (j := 93) (s' := ([some (.ref 20), some (.int x1), some (.int x2), some (.int x3)], [.int z71], (0, 0), hp)) rfl rfl ?_
           refine Ev.ret rfl rfl ?_
           rw [← hQ1]
           refine (show Ev _ 7 ([some (.ref 20), some (.int x1), some (.int x2), some (.int x3), none], [.int z71], (0, 0), hp) _ from ?_)
           refine Ev.step (j := 9) (s' := ([some (.ref 20), some (.int x1), some (.int x2), some (.int x3), some (.int z71)], [], (0, 0), hp)) rfl rfl ?_
           refine Ev.step (j := 11) (s' := ([some (.ref 20), some (.int x1), some (.int x2), some (.int x3), some (.int z71)], [.int z71], (0, 0), hp)) rfl rfl ?_
           refine bs_ifne rfl (fun c72 => ?_) (fun c72 => ?_)
           · skip
             refine Ev.step (j := 23) (s' := ([some (.ref 20), some (.int x1), some (.int x2), some (.int x3), some (.int z71)], [.int z71], (0, 0), hp)) rfl rfl ?_
             exact Ev.ret rfl rfl (by rw [hQ]; exact ⟨t, H, F0, bs_an0, sf_S_cons (sf_s1 (x := z71.toInt) rfl (by omega) (by omega)) (sf_S_nil)⟩)
           · exfalso; omega
def kq_X6_attempt_13d : sf_Q := ([(1, 13, 0), (0, 0, 0), (0, 0, 0), (0, 0, 0)], [(1, 3, 0, 3, 3, 0), (1, 6, 0, 0, 7, 0), (1, 9, 0, 0, 0, 0)], some (0, 0, 0), [(1, 0, 0, 0, 2, 0)], [(156, 0, 11), (157, 0, 11), (160, 0, 7)])
set_option maxRecDepth 100000 in
set_option maxHeartbeats 4000000 in
theorem ct_X6_attempt_13d : sf_ct kq_X6_attempt_13d Z_X6_attempt := by
  intro t hp as H hl hj hpre
  match as, hl with
  | [v0, v1, v2, v3], _ =>
    obtain ⟨a0, rfl, ra0⟩ := bs_aR (hj 0 _ rfl)
    obtain rfl := ra0.eq H (p := 20) rfl
    obtain ⟨x1, rfl⟩ := bs_aI (hj 1 _ rfl)
    have rg1 := n_range x1
    obtain ⟨x2, rfl⟩ := bs_aI (hj 2 _ rfl)
    have rg2 := n_range x2
    obtain ⟨x3, rfl⟩ := bs_aI (hj 3 _ rfl)
    have rg3 := n_range x3
    obtain ⟨pl0, ph0⟩ := bs_s1 (x := x1.toInt) rfl (hpre _ (List.mem_of_getElem? (i := 0) rfl))
    obtain ⟨pl1, ph1⟩ := bs_s1 (x := x2.toInt) rfl (hpre _ (List.mem_of_getElem? (i := 1) rfl))
    obtain ⟨pl2, ph2⟩ := bs_s1 (x := x3.toInt) rfl (hpre _ (List.mem_of_getElem? (i := 2) rfl))
    clear hpre hj
    have F0 : sf_fr [(156, 0, 11), (157, 0, 11), (160, 0, 7)] t hp t hp := sf_fr_rf
    refine bs_fin (K := kq_X6_attempt_13d) (L := (L_X6_attempt Z_X6_whyNot Z_X6_perform)) (nL := 5) (Nat.le_of_ble_eq_true rfl) ?_
    obtain ⟨Q, hQ⟩ : ∃ Q : ab_O → Prop, Q = (fun o => ∃ t', sf_h t' o.2 ∧ sf_fr (kq_X6_attempt_13d).2.2.2.2 t hp t' o.2 ∧ sf_an t' o.2.1 (kq_X6_attempt_13d).2.2.1 o.1 ∧ sf_S (sf_v1 o.1 [.ref 20, .int x1, .int x2, .int x3] o.2) (kq_X6_attempt_13d).2.2.2.1) := ⟨_, rfl⟩
    rw [← hQ]
    refine (show Ev (ab_T (L_X6_attempt Z_X6_whyNot Z_X6_perform)) 0 ([some (.ref 20), some (.int x1), some (.int x2), some (.int x3), none], [], (0, 0), hp) Q from ?_)
    exact by
     refine Ev.step (j := 1) (s' := ([some (.ref 20), some (.int x1), some (.int x2), some (.int x3), none], [.ref 20], (0, 0), hp)) rfl rfl ?_
     refine Ev.step (j := 2) (s' := ([some (.ref 20), some (.int x1), some (.int x2), some (.int x3), none], [.int x1, .ref 20], (0, 0), hp)) rfl rfl ?_
     refine Ev.step (j := 3) (s' := ([some (.ref 20), some (.int x1), some (.int x2), some (.int x3), none], [.int x2, .int x1, .ref 20], (0, 0), hp)) rfl rfl ?_
     refine Ev.step (j := 4) (s' := ([some (.ref 20), some (.int x1), some (.int x2), some (.int x3), none], [.int x3, .int x2, .int x1, .ref 20], (0, 0), hp)) rfl rfl ?_
     refine Ev.inl (L := (L_X6_whyNot Z_X6_isAlive)) (nL := 4) rfl (bs_rcv (g := 13) H (bs_R.uq H (g := 13) rfl) (by decide) rfl) rfl (Nat.le_of_ble_eq_true rfl) ?_
     generalize hQ1 : (fun (o : ab_O) => Ev _ _ _ _) = Q1
     refine (show Ev (ab_T (L_X6_whyNot Z_X6_isAlive)) 0 ([some (.ref 20), some (.int x1), some (.int x2), some (.int x3)], [], (0, 0), hp) Q1 from ?_)
     refine Ev.step (j := 1) (s' := ([some (.ref 20), some (.int x1), some (.int x2), some (.int x3)], [.int x1], (0, 0), hp)) rfl rfl ?_
     rcases (show x1.toInt = 3 by omega) with c2
     · refine bs_tabD rfl (by show _ ∨ _ + ((3 : Nat) : Int) ≤ _; omega) ?_
       refine Ev.step (j := 95) (s' := ([some (.ref 20), some (.int x1), some (.int x2), some (.int x3)], [.ref 20], (0, 0), hp)) rfl rfl ?_
       exact by
        refine Ev.step (j := 96) (s' := ([some (.ref 20), some (.int x1), some (.int x2), some (.int x3)], [.int x2, .ref 20], (0, 0), hp)) rfl rfl ?_
        refine Ev.inl (L := L_X6_isAlive) (nL := 2) rfl (bs_rcv (g := 13) H (bs_R.uq H (g := 13) rfl) (by decide) rfl) rfl (Nat.le_of_ble_eq_true rfl) ?_
        generalize hQ3 : (fun (o : ab_O) => Ev _ _ _ _) = Q3
        refine (show Ev (ab_T L_X6_isAlive) 0 ([some (.ref 20), some (.int x2)], [], (0, 0), hp) Q3 from ?_)
        refine Ev.step (j := 1) (s' := ([some (.ref 20), some (.int x2)], [.ref 20], (0, 0), hp)) rfl rfl ?_
        refine bs_getU (g := 13) (g1 := 160) rfl rfl H (bs_R.uq H (g := 13) rfl) (by decide) rfl rfl ?_
        refine Ev.step (j := 5) (s' := ([some (.ref 20), some (.int x2)], [.int x2, .ref 25], (0, 0), hp)) rfl rfl ?_
        refine bs_ld (g := 160) 0 7 (-2147483648, 2147483647) rfl H (bs_R.uq H (g := 160) rfl) (by decide) rfl (by decide) (by decide) rfl (by decide) (by omega) (by omega) fun z4 hz4 lz4 gz4 => ?_
        dsimp only at lz4 gz4
        refine bs_lit (k := -1) rfl rfl fun z5 hz5 => ?_
        exact by
         refine bs_eq rfl (fun c6 => ?_) (fun c6 => ?_)
         · skip
           have c7 : z4.toInt = -1 := by omega
           refine bs_lit (k := 0) rfl rfl fun z8 hz8 => ?_
           refine bs_zret rfl rfl (by omega) (by omega) ?_
           rw [← hQ3]
           refine (show Ev _ 99 ([some (.ref 20), some (.int x1), some (.int x2), some (.int x3)], [.int z8], (0, 0), hp) _ from ?_)
           refine bs_ifeq rfl (fun c9 => ?_) (fun c9 => ?_)
           · skip
             refine bs_lit (k := 1) rfl rfl fun z10 hz10 => ?_
             refine Ev.ret rfl rfl ?_
             rw [← hQ1]
             refine (show Ev _ 7 ([some (.ref 20), some (.int x1), some (.int x2), some (.int x3), none], [.int z10], (0, 0), hp) _ from ?_)
             exact by
              refine Ev.step (j := 9) (s' := ([some (.ref 20), some (.int x1), some (.int x2), some (.int x3), some (.int z10)], [], (0, 0), hp)) rfl rfl ?_
              refine Ev.step (j := 11) (s' := ([some (.ref 20), some (.int x1), some (.int x2), some (.int x3), some (.int z10)], [.int z10], (0, 0), hp)) rfl rfl ?_
              refine bs_ifne rfl (fun c11 => ?_) (fun c11 => ?_)
              · skip
                refine Ev.step (j := 23) (s' := ([some (.ref 20), some (.int x1), some (.int x2), some (.int x3), some (.int z10)], [.int z10], (0, 0), hp)) rfl rfl ?_
                exact Ev.ret rfl rfl (by rw [hQ]; exact ⟨t, H, F0, bs_an0, sf_S_cons (sf_s1 (x := z10.toInt) rfl (by omega) (by omega)) (sf_S_nil)⟩)
              · exfalso; omega
           · exfalso; omega
         · skip
           refine bs_lit (k := 1) rfl rfl fun z12 hz12 => ?_
           exact by
            refine Ev.step (j := 15) (s' := ([some (.ref 20), some (.int x2)], [.int z12], (0, 0), hp)) rfl rfl ?_
            refine bs_zret rfl rfl (by omega) (by omega) ?_
            rw [← hQ3]
            refine (show Ev _ 99 ([some (.ref 20), some (.int x1), some (.int x2), some (.int x3)], [.int z12], (0, 0), hp) _ from ?_)
            refine bs_ifeq rfl (fun c13 => ?_) (fun c13 => ?_)
            · exfalso; omega
            · skip
              refine bs_lit (k := 0) rfl rfl fun z14 hz14 => ?_
              refine Ev.step (j := 107) (s' := ([some (.ref 20), some (.int x1), some (.int x2), some (.int x3)], [.int z14], (0, 0), hp)) rfl rfl ?_
              refine Ev.ret rfl rfl ?_
              rw [← hQ1]
              refine (show Ev _ 7 ([some (.ref 20), some (.int x1), some (.int x2), some (.int x3), none], [.int z14], (0, 0), hp) _ from ?_)
              exact by
               refine Ev.step (j := 9) (s' := ([some (.ref 20), some (.int x1), some (.int x2), some (.int x3), some (.int z14)], [], (0, 0), hp)) rfl rfl ?_
               refine Ev.step (j := 11) (s' := ([some (.ref 20), some (.int x1), some (.int x2), some (.int x3), some (.int z14)], [.int z14], (0, 0), hp)) rfl rfl ?_
               refine bs_ifne rfl (fun c15 => ?_) (fun c15 => ?_)
               · exfalso; omega
               · skip
                 refine Ev.step (j := 15) (s' := ([some (.ref 20), some (.int x1), some (.int x2), some (.int x3), some (.int z14)], [.ref 20], (0, 0), hp)) rfl rfl ?_
                 refine Ev.step (j := 16) (s' := ([some (.ref 20), some (.int x1), some (.int x2), some (.int x3), some (.int z14)], [.int x1, .ref 20], (0, 0), hp)) rfl rfl ?_
                 refine Ev.step (j := 17) (s' := ([some (.ref 20), some (.int x1), some (.int x2), some (.int x3), some (.int z14)], [.int x2, .int x1, .ref 20], (0, 0), hp)) rfl rfl ?_
                 refine Ev.step (j := 18) (s' := ([some (.ref 20), some (.int x1), some (.int x2), some (.int x3), some (.int z14)], [.int x3, .int x2, .int x1, .ref 20], (0, 0), hp)) rfl rfl ?_
                 refine Ev.inl (L := L_X6_perform) (nL := 4) rfl (bs_rcv (g := 13) H (bs_R.uq H (g := 13) rfl) (by decide) rfl) rfl (Nat.le_of_ble_eq_true rfl) ?_
                 generalize hQ16 : (fun (o : ab_O) => Ev _ _ _ _) = Q16
                 refine (show Ev (ab_T L_X6_perform) 0 ([some (.ref 20), some (.int x1), some (.int x2), some (.int x3)], [], (0, 0), hp) Q16 from ?_)
                 exact by
                  refine Ev.step (j := 1) (s' := ([some (.ref 20), some (.int x1), some (.int x2), some (.int x3)], [.int x1], (0, 0), hp)) rfl rfl ?_
                  refine bs_lit (k := 3) rfl rfl fun z17 hz17 => ?_
                  refine bs_ne rfl (fun c18 => ?_) (fun c18 => ?_)
                  · exfalso; omega
                  · skip
                    refine Ev.step (j := 6) (s' := ([some (.ref 20), some (.int x1), some (.int x2), some (.int x3)], [.ref 20], (0, 0), hp)) rfl rfl ?_
                    refine bs_getU (g := 13) (g1 := 160) rfl rfl H (bs_R.uq H (g := 13) rfl) (by decide) rfl rfl ?_
                    refine Ev.step (j := 10) (s' := ([some (.ref 20), some (.int x1), some (.int x2), some (.int x3)], [.int x2, .ref 25], (0, 0), hp)) rfl rfl ?_
                    refine bs_lit (k := -1) rfl rfl fun z19 hz19 => ?_
                    refine bs_st (W := [(160, 0, 7)]) (g := 160) 0 7 (-2147483648, 2147483647) rfl H (bs_R.uq H (g := 160) rfl) (by decide) rfl rfl (by decide) rfl rfl (by omega) (by omega) (by dsimp only; omega) (by dsimp only; omega) fun hp20 Hhp20 fhp20 rhp20 ehp20 qhp20 nhp20 => ?_
                    have Fhp20 := sf_fr_tr F0 (sf_fr_wider (W := [(156, 0, 11), (157, 0, 11), (160, 0, 7)]) rfl fhp20)
                    refine Ev.ret rfl rfl ?_
                    rw [← hQ16]
                    refine (show Ev _ 21 ([some (.ref 20), some (.int x1), some (.int x2), some (.int x3), some (.int z14)], [], (0, 0), hp20) _ from ?_)
                    exact by
                     refine Ev.step (j := 23) (s' := ([some (.ref 20), some (.int x1), some (.int x2), some (.int x3), some (.int z14)], [.int z14], (0, 0), hp20)) rfl rfl ?_
                     exact Ev.ret rfl rfl (by rw [hQ]; exact ⟨t, Hhp20, Fhp20, bs_an0, sf_S_cons (sf_s1 (x := z14.toInt) rfl (by omega) (by omega)) (sf_S_nil)⟩)
def kq_X6_apartOf_607f48 : sf_Q := ([(1, 13, 0), (0, 0, 0), (0, 0, 0)], [(1, 3, 0, 0, 7, 0), (1, 6, 0, 0, 7, 0)], some (0, 0, 0), [], [])
def kc_X6_apartOf_607f48 : List (Nat × sf_I) := [(0, 2, [1, 1]),
  (1, 2, [2, 2]),
  (2, 21, [5, 19, 3]),
  (5, 4, [6, 0]),
  (6, 23, [9, 6, 6]),
  (9, 2, [10, 1]),
  (10, 0, [12, 8]),
  (12, 9, [13, 2]),
  (13, 2, [14, 2]),
  (14, 9, [15, 0]),
  (15, 25, [16, 1]),
  (16, 22, [30]),
  (19, 4, [20, 0]),
  (20, 23, [23, 6, 6]),
  (23, 2, [24, 2]),
  (24, 0, [26, 8]),
  (26, 9, [27, 2]),
  (27, 2, [28, 1]),
  (28, 9, [29, 0]),
  (29, 25, [30, 1]),
  (30, 35, [0, 0])]
def kd_X6_apartOf_607f48_0 : List (Nat × sf_D × sf_M) := [(0, ([(1, 13, 0), (0, 0, 0), (0, 0, 0)], [], [(1, 4, 0, 0, 7, 0), (1, 7, 0, 0, 7, 0)], 0, 0), (12, [])),
  (1, ([(1, 13, 0), (0, 0, 0), (0, 0, 0)], [(0, 0, 0)], [(1, 4, 0, 0, 7, 0), (1, 7, 0, 0, 7, 0), (1, 0, 0, 0, 7, 0), (2, 0, 4, 1, 0, 0)], 0, 0), (11, [])),
  (2, ([(1, 13, 0), (0, 0, 0), (0, 0, 0)], [(0, 0, 0), (0, 0, 0)], [(1, 4, 0, 0, 7, 0), (1, 7, 0, 0, 7, 0), (1, 0, 0, 0, 7, 0), (1, 3, 0, 0, 7, 0), (2, 0, 4, 1, 0, 0), (2, 3, 7, 1, 0, 0)], 0, 0), (10, [])),
  (5, ([(1, 13, 0), (0, 0, 0), (0, 0, 0)], [], [(1, 4, 0, 1, 7, 0), (1, 7, 0, 0, 6, 0)], 0, 0), (9, [])),
  (6, ([(1, 13, 0), (0, 0, 0), (0, 0, 0)], [(1, 13, 0)], [(1, 4, 0, 1, 7, 0), (1, 7, 0, 0, 6, 0)], 0, 0), (8, [])),
  (9, ([(1, 13, 0), (0, 0, 0), (0, 0, 0)], [(1, 162, 0)], [(1, 4, 0, 1, 7, 0), (1, 7, 0, 0, 6, 0)], 0, 0), (7, [])),
  (10, ([(1, 13, 0), (0, 0, 0), (0, 0, 0)], [(0, 0, 0), (1, 162, 0)], [(1, 4, 0, 1, 7, 0), (1, 7, 0, 0, 6, 0), (1, 3, 0, 1, 7, 0), (2, 3, 4, 1, 0, 0)], 0, 0), (6, [])),
  (12, ([(1, 13, 0), (0, 0, 0), (0, 0, 0)], [(0, 0, 0), (0, 0, 0), (1, 162, 0)], [(1, 4, 0, 1, 7, 0), (1, 7, 0, 0, 6, 0), (1, 3, 0, 1, 7, 0), (1, 6, 0, 8, 8, 0), (2, 3, 4, 1, 0, 0)], 0, 0), (5, [])),
  (13, ([(1, 13, 0), (0, 0, 0), (0, 0, 0)], [(0, 0, 0), (1, 162, 0)], [(1, 4, 0, 1, 7, 0), (1, 7, 0, 0, 6, 0), (1, 3, 0, 8, 56, 0), (2, 3, 4, 8, 0, 0)], 0, 0), (4, []))]
def kd_X6_apartOf_607f48_1 : List (Nat × sf_D × sf_M) := [(14, ([(1, 13, 0), (0, 0, 0), (0, 0, 0)], [(0, 0, 0), (0, 0, 0), (1, 162, 0)], [(1, 4, 0, 1, 7, 0), (1, 7, 0, 0, 6, 0), (1, 3, 0, 8, 56, 0), (1, 6, 0, 0, 6, 0), (2, 3, 4, 8, 0, 0), (2, 6, 7, 1, 0, 0)], 0, 0), (3, [])),
  (15, ([(1, 13, 0), (0, 0, 0), (0, 0, 0)], [(0, 0, 0), (1, 162, 0)], [(1, 4, 0, 1, 7, 0), (1, 7, 0, 0, 6, 0), (1, 3, 0, 8, 62, 0)], 0, 0), (2, [])),
  (16, ([(1, 13, 0), (0, 0, 0), (0, 0, 0)], [(0, 0, 0)], [(1, 4, 0, 1, 7, 0), (1, 7, 0, 0, 6, 0), (1, 0, 0, -2147483648, 2147483647, 0)], 0, 0), (1, [])),
  (19, ([(1, 13, 0), (0, 0, 0), (0, 0, 0)], [], [(1, 4, 0, 0, 7, 0), (1, 7, 0, 0, 7, 0)], 0, 0), (8, [])),
  (20, ([(1, 13, 0), (0, 0, 0), (0, 0, 0)], [(1, 13, 0)], [(1, 4, 0, 0, 7, 0), (1, 7, 0, 0, 7, 0)], 0, 0), (7, [])),
  (23, ([(1, 13, 0), (0, 0, 0), (0, 0, 0)], [(1, 162, 0)], [(1, 4, 0, 0, 7, 0), (1, 7, 0, 0, 7, 0)], 0, 0), (6, [])),
  (24, ([(1, 13, 0), (0, 0, 0), (0, 0, 0)], [(0, 0, 0), (1, 162, 0)], [(1, 4, 0, 0, 7, 0), (1, 7, 0, 0, 7, 0), (1, 3, 0, 0, 7, 0), (2, 3, 7, 1, 0, 0)], 0, 0), (5, [])),
  (26, ([(1, 13, 0), (0, 0, 0), (0, 0, 0)], [(0, 0, 0), (0, 0, 0), (1, 162, 0)], [(1, 4, 0, 0, 7, 0), (1, 7, 0, 0, 7, 0), (1, 3, 0, 0, 7, 0), (1, 6, 0, 8, 8, 0), (2, 3, 7, 1, 0, 0)], 0, 0), (4, [])),
  (27, ([(1, 13, 0), (0, 0, 0), (0, 0, 0)], [(0, 0, 0), (1, 162, 0)], [(1, 4, 0, 0, 7, 0), (1, 7, 0, 0, 7, 0), (1, 3, 0, 0, 56, 0), (2, 3, 7, 8, 0, 0)], 0, 0), (3, []))]
def kd_X6_apartOf_607f48_2 : List (Nat × sf_D × sf_M) := [(28, ([(1, 13, 0), (0, 0, 0), (0, 0, 0)], [(0, 0, 0), (0, 0, 0), (1, 162, 0)], [(1, 4, 0, 0, 7, 0), (1, 7, 0, 0, 7, 0), (1, 3, 0, 0, 56, 0), (1, 6, 0, 0, 7, 0), (2, 3, 7, 8, 0, 0), (2, 6, 4, 1, 0, 0)], 0, 0), (2, [])),
  (29, ([(1, 13, 0), (0, 0, 0), (0, 0, 0)], [(0, 0, 0), (1, 162, 0)], [(1, 4, 0, 0, 7, 0), (1, 7, 0, 0, 7, 0), (1, 3, 0, 0, 63, 0)], 0, 0), (1, [])),
  (30, ([(1, 13, 0), (0, 0, 0), (0, 0, 0)], [(0, 0, 0)], [(1, 4, 0, 0, 7, 0), (1, 7, 0, 0, 7, 0), (1, 0, 0, -2147483648, 2147483647, 0)], 0, 0), (0, []))]
def kd_X6_apartOf_607f48 : List (Nat × sf_D × sf_M) := kd_X6_apartOf_607f48_0 ++ (kd_X6_apartOf_607f48_1 ++ (kd_X6_apartOf_607f48_2))
set_option maxRecDepth 100000 in
theorem kt_X6_apartOf_607f48 : sf_chk [] kq_X6_apartOf_607f48 3 kc_X6_apartOf_607f48 kd_X6_apartOf_607f48 = true := by decide +kernel
set_option maxRecDepth 100000 in
theorem kl_X6_apartOf_607f48 : (kc_X6_apartOf_607f48).map (fun c => (c.1, sf_den ([] : List sf_X) c.2)) = L_X6_apartOf := rfl
theorem ct_X6_apartOf_607f48 : sf_ct kq_X6_apartOf_607f48 Z_X6_apartOf := by
  have h := sf_meth (K := []) (E := []) (k := kq_X6_apartOf_607f48) (nL := 3) (C := kc_X6_apartOf_607f48) (D := kd_X6_apartOf_607f48) (fun m k hk => match m, hk with
    | _ + 0, hk => (by cases hk)) kt_X6_apartOf_607f48
  rw [kl_X6_apartOf_607f48] at h
  exact h
def kq_X6_isFelt_837544 : sf_Q := ([(1, 13, 0), (1, 7, 0), (0, 0, 0)], [(1, 6, 0, 0, 19, 0)], some (0, 0, 0), [(1, 0, 0, 0, 1, 0)], [])
def kc_X6_isFelt_837544 : List (Nat × sf_I) := [(0, 4, [1, 1]),
  (1, 23, [4, 7, 4]),
  (4, 2, [5, 2]),
  (5, 25, [6, 1]),
  (6, 5, [7, 3]),
  (7, 4, [8, 1]),
  (8, 23, [11, 7, 5]),
  (11, 2, [12, 2]),
  (12, 25, [13, 1]),
  (13, 5, [15, 4]),
  (15, 4, [16, 0]),
  (16, 23, [19, 6, 4]),
  (19, 2, [20, 3]),
  (20, 25, [21, 1]),
  (21, 0, [22, -1]),
  (22, 21, [25, 40, 0]),
  (25, 4, [26, 0]),
  (26, 23, [29, 6, 4]),
  (29, 2, [31, 4]),
  (31, 25, [32, 1]),
  (32, 0, [33, -1]),
  (33, 21, [36, 40, 0]),
  (36, 0, [37, 1]),
  (37, 22, [41]),
  (40, 0, [41, 0]),
  (41, 5, [43, 5]),
  (43, 2, [45, 5]),
  (45, 20, [48, 84, 0]),
  (48, 4, [49, 0]),
  (49, 23, [52, 6, 4]),
  (52, 2, [53, 3]),
  (53, 25, [54, 1]),
  (54, 4, [55, 0]),
  (55, 23, [58, 6, 4]),
  (58, 2, [60, 4]),
  (60, 25, [61, 1]),
  (61, 21, [64, 84, 0]),
  (64, 4, [65, 0]),
  (65, 2, [66, 3]),
  (66, 2, [68, 4]),
  (68, 32, [71, 0, 3, 6, 0, 0, 0, 0]),
  (71, 4, [72, 1]),
  (72, 23, [75, 7, 6]),
  (75, 2, [76, 2]),
  (76, 25, [77, 1]),
  (77, 21, [80, 84, 2]),
  (80, 0, [81, 1]),
  (81, 22, [85]),
  (84, 0, [85, 0]),
  (85, 36, [0, 0])]
def kd_X6_isFelt_837544_0 : List (Nat × sf_D × sf_M) := [(0, ([(1, 13, 0), (1, 7, 0), (0, 0, 0), (8, 0, 0), (8, 0, 0), (8, 0, 0)], [], [(1, 7, 0, 0, 19, 0)], 0, 0), (47, [])),
  (1, ([(1, 13, 0), (1, 7, 0), (0, 0, 0), (8, 0, 0), (8, 0, 0), (8, 0, 0)], [(1, 7, 0)], [(1, 7, 0, 0, 19, 0)], 0, 0), (46, [])),
  (4, ([(1, 13, 0), (1, 7, 0), (0, 0, 0), (8, 0, 0), (8, 0, 0), (8, 0, 0)], [(1, 120, 0)], [(1, 7, 0, 0, 19, 0)], 0, 0), (45, [])),
  (5, ([(1, 13, 0), (1, 7, 0), (0, 0, 0), (8, 0, 0), (8, 0, 0), (8, 0, 0)], [(0, 0, 0), (1, 120, 0)], [(1, 7, 0, 0, 19, 0), (1, 3, 0, 0, 19, 0), (2, 3, 7, 1, 0, 0)], 0, 0), (44, [])),
  (6, ([(1, 13, 0), (1, 7, 0), (0, 0, 0), (8, 0, 0), (8, 0, 0), (8, 0, 0)], [(0, 0, 0)], [(1, 7, 0, 0, 19, 0), (1, 0, 0, 0, 7, 0)], 0, 0), (43, [])),
  (7, ([(1, 13, 0), (1, 7, 0), (0, 0, 0), (0, 0, 0), (8, 0, 0), (8, 0, 0)], [], [(1, 7, 0, 0, 19, 0), (1, 10, 0, 0, 7, 0)], 0, 0), (42, [])),
  (8, ([(1, 13, 0), (1, 7, 0), (0, 0, 0), (0, 0, 0), (8, 0, 0), (8, 0, 0)], [(1, 7, 0)], [(1, 7, 0, 0, 19, 0), (1, 10, 0, 0, 7, 0)], 0, 0), (41, [])),
  (11, ([(1, 13, 0), (1, 7, 0), (0, 0, 0), (0, 0, 0), (8, 0, 0), (8, 0, 0)], [(1, 121, 0)], [(1, 7, 0, 0, 19, 0), (1, 10, 0, 0, 7, 0)], 0, 0), (40, [])),
  (12, ([(1, 13, 0), (1, 7, 0), (0, 0, 0), (0, 0, 0), (8, 0, 0), (8, 0, 0)], [(0, 0, 0), (1, 121, 0)], [(1, 7, 0, 0, 19, 0), (1, 10, 0, 0, 7, 0), (1, 3, 0, 0, 19, 0), (2, 3, 7, 1, 0, 0)], 0, 0), (39, []))]
def kd_X6_isFelt_837544_1 : List (Nat × sf_D × sf_M) := [(13, ([(1, 13, 0), (1, 7, 0), (0, 0, 0), (0, 0, 0), (8, 0, 0), (8, 0, 0)], [(0, 0, 0)], [(1, 7, 0, 0, 19, 0), (1, 10, 0, 0, 7, 0), (1, 0, 0, 0, 7, 0)], 0, 0), (38, [])),
  (15, ([(1, 13, 0), (1, 7, 0), (0, 0, 0), (0, 0, 0), (0, 0, 0), (8, 0, 0)], [], [(1, 7, 0, 0, 19, 0), (1, 10, 0, 0, 7, 0), (1, 13, 0, 0, 7, 0)], 0, 0), (37, [])),
  (16, ([(1, 13, 0), (1, 7, 0), (0, 0, 0), (0, 0, 0), (0, 0, 0), (8, 0, 0)], [(1, 13, 0)], [(1, 7, 0, 0, 19, 0), (1, 10, 0, 0, 7, 0), (1, 13, 0, 0, 7, 0)], 0, 0), (36, [])),
  (19, ([(1, 13, 0), (1, 7, 0), (0, 0, 0), (0, 0, 0), (0, 0, 0), (8, 0, 0)], [(1, 160, 0)], [(1, 7, 0, 0, 19, 0), (1, 10, 0, 0, 7, 0), (1, 13, 0, 0, 7, 0)], 0, 0), (35, [])),
  (20, ([(1, 13, 0), (1, 7, 0), (0, 0, 0), (0, 0, 0), (0, 0, 0), (8, 0, 0)], [(0, 0, 0), (1, 160, 0)], [(1, 7, 0, 0, 19, 0), (1, 10, 0, 0, 7, 0), (1, 13, 0, 0, 7, 0), (1, 3, 0, 0, 7, 0), (2, 3, 10, 1, 0, 0)], 0, 0), (34, [])),
  (21, ([(1, 13, 0), (1, 7, 0), (0, 0, 0), (0, 0, 0), (0, 0, 0), (8, 0, 0)], [(0, 0, 0)], [(1, 7, 0, 0, 19, 0), (1, 10, 0, 0, 7, 0), (1, 13, 0, 0, 7, 0), (1, 0, 0, -2147483648, 2147483647, 0)], 0, 0), (33, [])),
  (22, ([(1, 13, 0), (1, 7, 0), (0, 0, 0), (0, 0, 0), (0, 0, 0), (8, 0, 0)], [(0, 0, 0), (0, 0, 0)], [(1, 7, 0, 0, 19, 0), (1, 10, 0, 0, 7, 0), (1, 13, 0, 0, 7, 0), (1, 0, 0, -2147483648, 2147483647, 0), (1, 3, 0, -1, -1, 0)], 0, 0), (32, []))]
def kd_X6_isFelt_837544_2 : List (Nat × sf_D × sf_M) := [(25, ([(1, 13, 0), (1, 7, 0), (0, 0, 0), (0, 0, 0), (0, 0, 0), (8, 0, 0)], [], [(1, 7, 0, 0, 19, 0), (1, 10, 0, 0, 7, 0), (1, 13, 0, 0, 7, 0)], 0, 0), (31, [])),
  (26, ([(1, 13, 0), (1, 7, 0), (0, 0, 0), (0, 0, 0), (0, 0, 0), (8, 0, 0)], [(1, 13, 0)], [(1, 7, 0, 0, 19, 0), (1, 10, 0, 0, 7, 0), (1, 13, 0, 0, 7, 0)], 0, 0), (30, [])),
  (29, ([(1, 13, 0), (1, 7, 0), (0, 0, 0), (0, 0, 0), (0, 0, 0), (8, 0, 0)], [(1, 160, 0)], [(1, 7, 0, 0, 19, 0), (1, 10, 0, 0, 7, 0), (1, 13, 0, 0, 7, 0)], 0, 0), (29, [])),
  (31, ([(1, 13, 0), (1, 7, 0), (0, 0, 0), (0, 0, 0), (0, 0, 0), (8, 0, 0)], [(0, 0, 0), (1, 160, 0)], [(1, 7, 0, 0, 19, 0), (1, 10, 0, 0, 7, 0), (1, 13, 0, 0, 7, 0), (1, 3, 0, 0, 7, 0), (2, 3, 13, 1, 0, 0)], 0, 0), (28, [])),
  (32, ([(1, 13, 0), (1, 7, 0), (0, 0, 0), (0, 0, 0), (0, 0, 0), (8, 0, 0)], [(0, 0, 0)], [(1, 7, 0, 0, 19, 0), (1, 10, 0, 0, 7, 0), (1, 13, 0, 0, 7, 0), (1, 0, 0, -2147483648, 2147483647, 0)], 0, 0), (27, [])),
  (33, ([(1, 13, 0), (1, 7, 0), (0, 0, 0), (0, 0, 0), (0, 0, 0), (8, 0, 0)], [(0, 0, 0), (0, 0, 0)], [(1, 7, 0, 0, 19, 0), (1, 10, 0, 0, 7, 0), (1, 13, 0, 0, 7, 0), (1, 0, 0, -2147483648, 2147483647, 0), (1, 3, 0, -1, -1, 0)], 0, 0), (26, [])),
  (36, ([(1, 13, 0), (1, 7, 0), (0, 0, 0), (0, 0, 0), (0, 0, 0), (8, 0, 0)], [], [(1, 7, 0, 0, 19, 0), (1, 10, 0, 0, 7, 0), (1, 13, 0, 0, 7, 0)], 0, 0), (25, []))]
def kd_X6_isFelt_837544_3 : List (Nat × sf_D × sf_M) := [(37, ([(1, 13, 0), (1, 7, 0), (0, 0, 0), (0, 0, 0), (0, 0, 0), (8, 0, 0)], [(0, 0, 0)], [(1, 7, 0, 0, 19, 0), (1, 10, 0, 0, 7, 0), (1, 13, 0, 0, 7, 0), (1, 0, 0, 1, 1, 0)], 0, 0), (24, [])),
  (40, ([(1, 13, 0), (1, 7, 0), (0, 0, 0), (0, 0, 0), (0, 0, 0), (8, 0, 0)], [], [(1, 7, 0, 0, 19, 0), (1, 10, 0, 0, 7, 0), (1, 13, 0, 0, 7, 0)], 0, 0), (24, [])),
  (41, ([(1, 13, 0), (1, 7, 0), (0, 0, 0), (0, 0, 0), (0, 0, 0), (8, 0, 0)], [(0, 0, 0)], [(1, 7, 0, 0, 19, 0), (1, 10, 0, 0, 7, 0), (1, 13, 0, 0, 7, 0), (1, 0, 0, 0, 1, 0)], 0, 0), (23, [])),
  (43, ([(1, 13, 0), (1, 7, 0), (0, 0, 0), (0, 0, 0), (0, 0, 0), (0, 0, 0)], [], [(1, 7, 0, 0, 19, 0), (1, 10, 0, 0, 7, 0), (1, 13, 0, 0, 7, 0), (1, 16, 0, 0, 1, 0)], 0, 0), (22, [])),
  (45, ([(1, 13, 0), (1, 7, 0), (0, 0, 0), (0, 0, 0), (0, 0, 0), (0, 0, 0)], [(0, 0, 0)], [(1, 7, 0, 0, 19, 0), (1, 10, 0, 0, 7, 0), (1, 13, 0, 0, 7, 0), (1, 16, 0, 0, 1, 0), (1, 0, 0, 0, 1, 0), (2, 0, 16, 1, 0, 0)], 0, 0), (21, [])),
  (48, ([(1, 13, 0), (1, 7, 0), (0, 0, 0), (0, 0, 0), (0, 0, 0), (0, 0, 0)], [], [(1, 7, 0, 0, 19, 0), (1, 10, 0, 0, 7, 0), (1, 13, 0, 0, 7, 0), (1, 16, 0, 1, 1, 0)], 0, 0), (20, []))]
def kd_X6_isFelt_837544_4 : List (Nat × sf_D × sf_M) := [(49, ([(1, 13, 0), (1, 7, 0), (0, 0, 0), (0, 0, 0), (0, 0, 0), (0, 0, 0)], [(1, 13, 0)], [(1, 7, 0, 0, 19, 0), (1, 10, 0, 0, 7, 0), (1, 13, 0, 0, 7, 0), (1, 16, 0, 1, 1, 0)], 0, 0), (19, [])),
  (52, ([(1, 13, 0), (1, 7, 0), (0, 0, 0), (0, 0, 0), (0, 0, 0), (0, 0, 0)], [(1, 160, 0)], [(1, 7, 0, 0, 19, 0), (1, 10, 0, 0, 7, 0), (1, 13, 0, 0, 7, 0), (1, 16, 0, 1, 1, 0)], 0, 0), (18, [])),
  (53, ([(1, 13, 0), (1, 7, 0), (0, 0, 0), (0, 0, 0), (0, 0, 0), (0, 0, 0)], [(0, 0, 0), (1, 160, 0)], [(1, 7, 0, 0, 19, 0), (1, 10, 0, 0, 7, 0), (1, 13, 0, 0, 7, 0), (1, 16, 0, 1, 1, 0), (1, 3, 0, 0, 7, 0), (2, 3, 10, 1, 0, 0)], 0, 0), (17, [])),
  (54, ([(1, 13, 0), (1, 7, 0), (0, 0, 0), (0, 0, 0), (0, 0, 0), (0, 0, 0)], [(0, 0, 0)], [(1, 7, 0, 0, 19, 0), (1, 10, 0, 0, 7, 0), (1, 13, 0, 0, 7, 0), (1, 16, 0, 1, 1, 0), (1, 0, 0, -2147483648, 2147483647, 0)], 0, 0), (16, [])),
  (55, ([(1, 13, 0), (1, 7, 0), (0, 0, 0), (0, 0, 0), (0, 0, 0), (0, 0, 0)], [(1, 13, 0), (0, 0, 0)], [(1, 7, 0, 0, 19, 0), (1, 10, 0, 0, 7, 0), (1, 13, 0, 0, 7, 0), (1, 16, 0, 1, 1, 0), (1, 0, 0, -2147483648, 2147483647, 0)], 0, 0), (15, []))]
def kd_X6_isFelt_837544_5 : List (Nat × sf_D × sf_M) := [(58, ([(1, 13, 0), (1, 7, 0), (0, 0, 0), (0, 0, 0), (0, 0, 0), (0, 0, 0)], [(1, 160, 0), (0, 0, 0)], [(1, 7, 0, 0, 19, 0), (1, 10, 0, 0, 7, 0), (1, 13, 0, 0, 7, 0), (1, 16, 0, 1, 1, 0), (1, 0, 0, -2147483648, 2147483647, 0)], 0, 0), (14, [])),
  (60, ([(1, 13, 0), (1, 7, 0), (0, 0, 0), (0, 0, 0), (0, 0, 0), (0, 0, 0)], [(0, 0, 0), (1, 160, 0), (0, 0, 0)], [(1, 7, 0, 0, 19, 0), (1, 10, 0, 0, 7, 0), (1, 13, 0, 0, 7, 0), (1, 16, 0, 1, 1, 0), (1, 0, 0, -2147483648, 2147483647, 0), (1, 6, 0, 0, 7, 0), (2, 6, 13, 1, 0, 0)], 0, 0), (13, [])),
  (61, ([(1, 13, 0), (1, 7, 0), (0, 0, 0), (0, 0, 0), (0, 0, 0), (0, 0, 0)], [(0, 0, 0), (0, 0, 0)], [(1, 7, 0, 0, 19, 0), (1, 10, 0, 0, 7, 0), (1, 13, 0, 0, 7, 0), (1, 16, 0, 1, 1, 0), (1, 0, 0, -2147483648, 2147483647, 0), (1, 3, 0, -2147483648, 2147483647, 0)], 0, 0), (12, [])),
  (64, ([(1, 13, 0), (1, 7, 0), (0, 0, 0), (0, 0, 0), (0, 0, 0), (0, 0, 0)], [], [(1, 7, 0, 0, 19, 0), (1, 10, 0, 0, 7, 0), (1, 13, 0, 0, 7, 0), (1, 16, 0, 1, 1, 0)], 0, 0), (11, [])),
  (65, ([(1, 13, 0), (1, 7, 0), (0, 0, 0), (0, 0, 0), (0, 0, 0), (0, 0, 0)], [(1, 13, 0)], [(1, 7, 0, 0, 19, 0), (1, 10, 0, 0, 7, 0), (1, 13, 0, 0, 7, 0), (1, 16, 0, 1, 1, 0)], 0, 0), (10, []))]
def kd_X6_isFelt_837544_6 : List (Nat × sf_D × sf_M) := [(66, ([(1, 13, 0), (1, 7, 0), (0, 0, 0), (0, 0, 0), (0, 0, 0), (0, 0, 0)], [(0, 0, 0), (1, 13, 0)], [(1, 7, 0, 0, 19, 0), (1, 10, 0, 0, 7, 0), (1, 13, 0, 0, 7, 0), (1, 16, 0, 1, 1, 0), (1, 3, 0, 0, 7, 0), (2, 3, 10, 1, 0, 0)], 0, 0), (9, [])),
  (68, ([(1, 13, 0), (1, 7, 0), (0, 0, 0), (0, 0, 0), (0, 0, 0), (0, 0, 0)], [(0, 0, 0), (0, 0, 0), (1, 13, 0)], [(1, 7, 0, 0, 19, 0), (1, 10, 0, 0, 7, 0), (1, 13, 0, 0, 7, 0), (1, 16, 0, 1, 1, 0), (1, 3, 0, 0, 7, 0), (1, 6, 0, 0, 7, 0), (2, 3, 10, 1, 0, 0), (2, 6, 13, 1, 0, 0)], 0, 0), (8, [])),
  (71, ([(1, 13, 0), (1, 7, 0), (0, 0, 0), (0, 0, 0), (0, 0, 0), (0, 0, 0)], [(0, 0, 0)], [(1, 7, 0, 0, 19, 0), (1, 10, 0, 0, 7, 0), (1, 13, 0, 0, 7, 0), (1, 16, 0, 1, 1, 0), (1, 0, 0, -2147483648, 2147483647, 0)], 0, 0), (7, [])),
  (72, ([(1, 13, 0), (1, 7, 0), (0, 0, 0), (0, 0, 0), (0, 0, 0), (0, 0, 0)], [(1, 7, 0), (0, 0, 0)], [(1, 7, 0, 0, 19, 0), (1, 10, 0, 0, 7, 0), (1, 13, 0, 0, 7, 0), (1, 16, 0, 1, 1, 0), (1, 0, 0, -2147483648, 2147483647, 0)], 0, 0), (6, [])),
  (75, ([(1, 13, 0), (1, 7, 0), (0, 0, 0), (0, 0, 0), (0, 0, 0), (0, 0, 0)], [(1, 122, 0), (0, 0, 0)], [(1, 7, 0, 0, 19, 0), (1, 10, 0, 0, 7, 0), (1, 13, 0, 0, 7, 0), (1, 16, 0, 1, 1, 0), (1, 0, 0, -2147483648, 2147483647, 0)], 0, 0), (5, []))]
def kd_X6_isFelt_837544_7 : List (Nat × sf_D × sf_M) := [(76, ([(1, 13, 0), (1, 7, 0), (0, 0, 0), (0, 0, 0), (0, 0, 0), (0, 0, 0)], [(0, 0, 0), (1, 122, 0), (0, 0, 0)], [(1, 7, 0, 0, 19, 0), (1, 10, 0, 0, 7, 0), (1, 13, 0, 0, 7, 0), (1, 16, 0, 1, 1, 0), (1, 0, 0, -2147483648, 2147483647, 0), (1, 6, 0, 0, 19, 0), (2, 6, 7, 1, 0, 0)], 0, 0), (4, [])),
  (77, ([(1, 13, 0), (1, 7, 0), (0, 0, 0), (0, 0, 0), (0, 0, 0), (0, 0, 0)], [(0, 0, 0), (0, 0, 0)], [(1, 7, 0, 0, 19, 0), (1, 10, 0, 0, 7, 0), (1, 13, 0, 0, 7, 0), (1, 16, 0, 1, 1, 0), (1, 0, 0, -2147483648, 2147483647, 0), (1, 3, 0, -2147483648, 2147483647, 0)], 0, 0), (3, [])),
  (80, ([(1, 13, 0), (1, 7, 0), (0, 0, 0), (0, 0, 0), (0, 0, 0), (0, 0, 0)], [], [(1, 7, 0, 0, 19, 0), (1, 10, 0, 0, 7, 0), (1, 13, 0, 0, 7, 0), (1, 16, 0, 1, 1, 0)], 0, 0), (2, [])),
  (81, ([(1, 13, 0), (1, 7, 0), (0, 0, 0), (0, 0, 0), (0, 0, 0), (0, 0, 0)], [(0, 0, 0)], [(1, 7, 0, 0, 19, 0), (1, 10, 0, 0, 7, 0), (1, 13, 0, 0, 7, 0), (1, 16, 0, 1, 1, 0), (1, 0, 0, 1, 1, 0)], 0, 0), (1, [])),
  (84, ([(1, 13, 0), (1, 7, 0), (0, 0, 0), (0, 0, 0), (0, 0, 0), (0, 0, 0)], [], [(1, 7, 0, 0, 19, 0), (1, 10, 0, 0, 7, 0), (1, 13, 0, 0, 7, 0), (1, 16, 0, 0, 1, 0)], 0, 0), (1, []))]
def kd_X6_isFelt_837544_8 : List (Nat × sf_D × sf_M) := [(85, ([(1, 13, 0), (1, 7, 0), (0, 0, 0), (0, 0, 0), (0, 0, 0), (0, 0, 0)], [(0, 0, 0)], [(1, 7, 0, 0, 19, 0), (1, 10, 0, 0, 7, 0), (1, 13, 0, 0, 7, 0), (1, 16, 0, 0, 1, 0), (1, 0, 0, 0, 1, 0), (3, 0, 16, 1, 1, 0)], 0, 0), (0, []))]
def kd_X6_isFelt_837544 : List (Nat × sf_D × sf_M) := kd_X6_isFelt_837544_0 ++ (kd_X6_isFelt_837544_1 ++ (kd_X6_isFelt_837544_2 ++ (kd_X6_isFelt_837544_3 ++ (kd_X6_isFelt_837544_4 ++ (kd_X6_isFelt_837544_5 ++ (kd_X6_isFelt_837544_6 ++ (kd_X6_isFelt_837544_7 ++ (kd_X6_isFelt_837544_8))))))))
set_option maxRecDepth 100000 in
theorem kt_X6_isFelt_837544 : sf_chk [kq_X6_apartOf_607f48] kq_X6_isFelt_837544 6 kc_X6_isFelt_837544 kd_X6_isFelt_837544 = true := by decide +kernel
set_option maxRecDepth 100000 in
theorem kl_X6_isFelt_837544 : (kc_X6_isFelt_837544).map (fun c => (c.1, sf_den ([Z_X6_apartOf] : List sf_X) c.2)) = L_X6_isFelt Z_X6_apartOf := rfl
theorem ct_X6_isFelt_837544 : sf_ct kq_X6_isFelt_837544 Z_X6_isFelt := by
  have h := sf_meth (K := [kq_X6_apartOf_607f48]) (E := [Z_X6_apartOf]) (k := kq_X6_isFelt_837544) (nL := 6) (C := kc_X6_isFelt_837544) (D := kd_X6_isFelt_837544) (fun m k hk => match m, hk with
    | 0, hk => (Option.some.inj hk) ▸ ct_X6_apartOf_607f48
    | _ + 1, hk => (by cases hk)) kt_X6_isFelt_837544
  rw [kl_X6_isFelt_837544] at h
  exact h
def kq_X6_allMissed_8768d4 : sf_Q := ([(1, 13, 0), (1, 7, 0)], [], some (0, 0, 0), [], [])
def kc_X6_allMissed_8768d4 : List (Nat × sf_I) := [(0, 0, [1, 0]),
  (1, 5, [2, 2]),
  (2, 0, [3, 0]),
  (3, 5, [4, 3]),
  (4, 2, [5, 3]),
  (5, 4, [6, 1]),
  (6, 23, [9, 7, 10]),
  (9, 21, [12, 38, 5]),
  (12, 4, [13, 0]),
  (13, 4, [14, 1]),
  (14, 2, [15, 3]),
  (15, 32, [18, 0, 3, 6, 0, 0, 0, 0]),
  (18, 20, [21, 32, 0]),
  (21, 2, [22, 2]),
  (22, 0, [23, 1]),
  (23, 4, [24, 1]),
  (24, 23, [27, 7, 5]),
  (27, 2, [28, 3]),
  (28, 25, [29, 1]),
  (29, 9, [30, 6]),
  (30, 9, [31, 4]),
  (31, 5, [32, 2]),
  (32, 8, [35, 3, 1]),
  (35, 22, [4]),
  (38, 2, [39, 2]),
  (39, 35, [0, 0])]
def kd_X6_allMissed_8768d4_0 : List (Nat × sf_D × sf_M) := [(0, ([(1, 13, 0), (1, 7, 0), (8, 0, 0), (8, 0, 0)], [], [], 0, 0), (462, [])),
  (1, ([(1, 13, 0), (1, 7, 0), (8, 0, 0), (8, 0, 0)], [(0, 0, 0)], [(1, 0, 0, 0, 0, 0)], 0, 0), (461, [])),
  (2, ([(1, 13, 0), (1, 7, 0), (0, 0, 0), (8, 0, 0)], [], [(1, 7, 0, 0, 0, 0)], 0, 0), (460, [])),
  (3, ([(1, 13, 0), (1, 7, 0), (0, 0, 0), (8, 0, 0)], [(0, 0, 0)], [(1, 7, 0, 0, 0, 0), (1, 0, 0, 0, 0, 0)], 0, 0), (459, [])),
  (4, ([(1, 13, 0), (1, 7, 0), (0, 0, 0), (0, 0, 0)], [], [(1, 7, 0, -2147483648, 2147483647, 0), (1, 10, 0, 0, 20, 0)], 0, 0), (18, [(22, 10, 20, 0)])),
  (5, ([(1, 13, 0), (1, 7, 0), (0, 0, 0), (0, 0, 0)], [(0, 0, 0)], [(1, 7, 0, -2147483648, 2147483647, 0), (1, 10, 0, 0, 20, 0), (1, 0, 0, 0, 20, 0), (2, 0, 10, 1, 0, 0)], 0, 0), (17, [(22, 10, 20, 0)])),
  (6, ([(1, 13, 0), (1, 7, 0), (0, 0, 0), (0, 0, 0)], [(1, 7, 0), (0, 0, 0)], [(1, 7, 0, -2147483648, 2147483647, 0), (1, 10, 0, 0, 20, 0), (1, 0, 0, 0, 20, 0), (2, 0, 10, 1, 0, 0)], 0, 0), (16, [(22, 10, 20, 0)])),
  (9, ([(1, 13, 0), (1, 7, 0), (0, 0, 0), (0, 0, 0)], [(0, 0, 20), (0, 0, 0)], [(1, 7, 0, -2147483648, 2147483647, 0), (1, 10, 0, 0, 20, 0), (1, 0, 0, 0, 20, 0), (1, 3, 0, 0, 20, 0), (2, 0, 10, 1, 0, 0)], 0, 0), (15, [(22, 10, 20, 0)])),
  (12, ([(1, 13, 0), (1, 7, 0), (0, 0, 0), (0, 0, 0)], [], [(1, 7, 0, -2147483648, 2147483647, 0), (1, 10, 0, 0, 19, 0)], 0, 0), (14, [(22, 10, 20, 0)]))]
def kd_X6_allMissed_8768d4_1 : List (Nat × sf_D × sf_M) := [(13, ([(1, 13, 0), (1, 7, 0), (0, 0, 0), (0, 0, 0)], [(1, 13, 0)], [(1, 7, 0, -2147483648, 2147483647, 0), (1, 10, 0, 0, 19, 0)], 0, 0), (13, [(22, 10, 20, 0)])),
  (14, ([(1, 13, 0), (1, 7, 0), (0, 0, 0), (0, 0, 0)], [(1, 7, 0), (1, 13, 0)], [(1, 7, 0, -2147483648, 2147483647, 0), (1, 10, 0, 0, 19, 0)], 0, 0), (12, [(22, 10, 20, 0)])),
  (15, ([(1, 13, 0), (1, 7, 0), (0, 0, 0), (0, 0, 0)], [(0, 0, 0), (1, 7, 0), (1, 13, 0)], [(1, 7, 0, -2147483648, 2147483647, 0), (1, 10, 0, 0, 19, 0), (1, 6, 0, 0, 19, 0), (2, 6, 10, 1, 0, 0)], 0, 0), (11, [(22, 10, 20, 0)])),
  (18, ([(1, 13, 0), (1, 7, 0), (0, 0, 0), (0, 0, 0)], [(0, 0, 0)], [(1, 7, 0, -2147483648, 2147483647, 0), (1, 10, 0, 0, 19, 0), (1, 0, 0, 0, 1, 0)], 0, 0), (10, [(22, 10, 20, 0)])),
  (21, ([(1, 13, 0), (1, 7, 0), (0, 0, 0), (0, 0, 0)], [], [(1, 7, 0, -2147483648, 2147483647, 0), (1, 10, 0, 0, 19, 0)], 0, 0), (9, [(22, 10, 20, 0)])),
  (22, ([(1, 13, 0), (1, 7, 0), (0, 0, 0), (0, 0, 0)], [(0, 0, 0)], [(1, 7, 0, -2147483648, 2147483647, 0), (1, 10, 0, 0, 19, 0), (1, 0, 0, -2147483648, 2147483647, 0), (2, 0, 7, 1, 0, 0)], 0, 0), (8, [(22, 10, 20, 0)])),
  (23, ([(1, 13, 0), (1, 7, 0), (0, 0, 0), (0, 0, 0)], [(0, 0, 0), (0, 0, 0)], [(1, 7, 0, -2147483648, 2147483647, 0), (1, 10, 0, 0, 19, 0), (1, 0, 0, -2147483648, 2147483647, 0), (1, 3, 0, 1, 1, 0), (2, 0, 7, 1, 0, 0)], 0, 0), (7, [(22, 10, 20, 0)]))]
def kd_X6_allMissed_8768d4_2 : List (Nat × sf_D × sf_M) := [(24, ([(1, 13, 0), (1, 7, 0), (0, 0, 0), (0, 0, 0)], [(1, 7, 0), (0, 0, 0), (0, 0, 0)], [(1, 7, 0, -2147483648, 2147483647, 0), (1, 10, 0, 0, 19, 0), (1, 0, 0, -2147483648, 2147483647, 0), (1, 3, 0, 1, 1, 0), (2, 0, 7, 1, 0, 0)], 0, 0), (6, [(22, 10, 20, 0)])),
  (27, ([(1, 13, 0), (1, 7, 0), (0, 0, 0), (0, 0, 0)], [(1, 121, 0), (0, 0, 0), (0, 0, 0)], [(1, 7, 0, -2147483648, 2147483647, 0), (1, 10, 0, 0, 19, 0), (1, 0, 0, -2147483648, 2147483647, 0), (1, 3, 0, 1, 1, 0), (2, 0, 7, 1, 0, 0)], 0, 0), (5, [(22, 10, 20, 0)])),
  (28, ([(1, 13, 0), (1, 7, 0), (0, 0, 0), (0, 0, 0)], [(0, 0, 0), (1, 121, 0), (0, 0, 0), (0, 0, 0)], [(1, 7, 0, -2147483648, 2147483647, 0), (1, 10, 0, 0, 19, 0), (1, 0, 0, -2147483648, 2147483647, 0), (1, 3, 0, 1, 1, 0), (1, 9, 0, 0, 19, 0), (2, 0, 7, 1, 0, 0), (2, 9, 10, 1, 0, 0)], 0, 0), (4, [(22, 10, 20, 0)])),
  (29, ([(1, 13, 0), (1, 7, 0), (0, 0, 0), (0, 0, 0)], [(0, 0, 0), (0, 0, 0), (0, 0, 0)], [(1, 7, 0, -2147483648, 2147483647, 0), (1, 10, 0, 0, 19, 0), (1, 0, 0, -2147483648, 2147483647, 0), (1, 3, 0, 1, 1, 0), (1, 6, 0, 0, 7, 0), (2, 0, 7, 1, 0, 0)], 0, 0), (3, [(22, 10, 20, 0)])),
  (30, ([(1, 13, 0), (1, 7, 0), (0, 0, 0), (0, 0, 0)], [(0, 0, 0), (0, 0, 0)], [(1, 7, 0, -2147483648, 2147483647, 0), (1, 10, 0, 0, 19, 0), (1, 0, 0, -2147483648, 2147483647, 0), (1, 3, 0, -2147483648, 2147483647, 0), (2, 0, 7, 1, 0, 0)], 0, 0), (2, [(22, 10, 20, 0)]))]
def kd_X6_allMissed_8768d4_3 : List (Nat × sf_D × sf_M) := [(31, ([(1, 13, 0), (1, 7, 0), (0, 0, 0), (0, 0, 0)], [(0, 0, 0)], [(1, 7, 0, -2147483648, 2147483647, 0), (1, 10, 0, 0, 19, 0), (1, 0, 0, -2147483648, 2147483647, 0)], 0, 0), (1, [(22, 10, 20, 0)])),
  (32, ([(1, 13, 0), (1, 7, 0), (0, 0, 0), (0, 0, 0)], [], [(1, 7, 0, -2147483648, 2147483647, 0), (1, 10, 0, 0, 19, 0)], 0, 0), (0, [(22, 10, 20, 0)])),
  (35, ([(1, 13, 0), (1, 7, 0), (0, 0, 0), (0, 0, 0)], [], [(1, 7, 0, -2147483648, 2147483647, 0), (1, 10, 0, 1, 20, 0)], 0, 0), (19, [(22, 10, 20, 0)])),
  (38, ([(1, 13, 0), (1, 7, 0), (0, 0, 0), (0, 0, 0)], [], [(1, 7, 0, -2147483648, 2147483647, 0), (1, 10, 0, 0, 20, 0)], 0, 0), (1, [])),
  (39, ([(1, 13, 0), (1, 7, 0), (0, 0, 0), (0, 0, 0)], [(0, 0, 0)], [(1, 7, 0, -2147483648, 2147483647, 0), (1, 10, 0, 0, 20, 0), (1, 0, 0, -2147483648, 2147483647, 0), (2, 0, 7, 1, 0, 0)], 0, 0), (0, []))]
def kd_X6_allMissed_8768d4 : List (Nat × sf_D × sf_M) := kd_X6_allMissed_8768d4_0 ++ (kd_X6_allMissed_8768d4_1 ++ (kd_X6_allMissed_8768d4_2 ++ (kd_X6_allMissed_8768d4_3)))
set_option maxRecDepth 100000 in
theorem kt_X6_allMissed_8768d4 : sf_chk [kq_X6_isFelt_837544] kq_X6_allMissed_8768d4 4 kc_X6_allMissed_8768d4 kd_X6_allMissed_8768d4 = true := by decide +kernel
set_option maxRecDepth 100000 in
theorem kl_X6_allMissed_8768d4 : (kc_X6_allMissed_8768d4).map (fun c => (c.1, sf_den ([Z_X6_isFelt] : List sf_X) c.2)) = L_X6_allMissed Z_X6_isFelt := rfl
theorem ct_X6_allMissed_8768d4 : sf_ct kq_X6_allMissed_8768d4 Z_X6_allMissed := by
  have h := sf_meth (K := [kq_X6_isFelt_837544]) (E := [Z_X6_isFelt]) (k := kq_X6_allMissed_8768d4) (nL := 4) (C := kc_X6_allMissed_8768d4) (D := kd_X6_allMissed_8768d4) (fun m k hk => match m, hk with
    | 0, hk => (Option.some.inj hk) ▸ ct_X6_isFelt_837544
    | _ + 1, hk => (by cases hk)) kt_X6_allMissed_8768d4
  rw [kl_X6_allMissed_8768d4] at h
  exact h
def kq_X7_leftAfter_746df8 : sf_Q := ([(1, 7, 0), (0, 0, 0), (0, 0, 0)], [(1, 3, 0, 0, 11, 0), (1, 6, 0, 0, 999, 0)], some (0, 0, 0), [(1, 0, 0, -250, 999, 0)], [])
def kc_X7_leftAfter_746df8 : List (Nat × sf_I) := [(0, 0, [3, 999]),
  (3, 2, [4, 2]),
  (4, 4, [5, 0]),
  (5, 23, [8, 7, 3]),
  (8, 0, [10, 36]),
  (10, 2, [11, 1]),
  (11, 9, [12, 0]),
  (12, 25, [13, 1]),
  (13, 9, [14, 0]),
  (14, 33, [17, 1, 0, 0]),
  (17, 5, [18, 3]),
  (18, 2, [19, 3]),
  (19, 4, [20, 0]),
  (20, 23, [23, 7, 3]),
  (23, 0, [25, 24]),
  (25, 2, [26, 1]),
  (26, 9, [27, 0]),
  (27, 25, [28, 1]),
  (28, 9, [29, 1]),
  (29, 35, [0, 0])]
def kd_X7_leftAfter_746df8_0 : List (Nat × sf_D × sf_M) := [(0, ([(1, 7, 0), (0, 0, 0), (0, 0, 0), (8, 0, 0)], [], [(1, 4, 0, 0, 11, 0), (1, 7, 0, 0, 999, 0)], 0, 0), (19, [])),
  (3, ([(1, 7, 0), (0, 0, 0), (0, 0, 0), (8, 0, 0)], [(0, 0, 0)], [(1, 4, 0, 0, 11, 0), (1, 7, 0, 0, 999, 0), (1, 0, 0, 999, 999, 0)], 0, 0), (18, [])),
  (4, ([(1, 7, 0), (0, 0, 0), (0, 0, 0), (8, 0, 0)], [(0, 0, 0), (0, 0, 0)], [(1, 4, 0, 0, 11, 0), (1, 7, 0, 0, 999, 0), (1, 0, 0, 999, 999, 0), (1, 3, 0, 0, 999, 0), (2, 3, 7, 1, 0, 0)], 0, 0), (17, [])),
  (5, ([(1, 7, 0), (0, 0, 0), (0, 0, 0), (8, 0, 0)], [(1, 7, 0), (0, 0, 0), (0, 0, 0)], [(1, 4, 0, 0, 11, 0), (1, 7, 0, 0, 999, 0), (1, 0, 0, 999, 999, 0), (1, 3, 0, 0, 999, 0), (2, 3, 7, 1, 0, 0)], 0, 0), (16, [])),
  (8, ([(1, 7, 0), (0, 0, 0), (0, 0, 0), (8, 0, 0)], [(1, 119, 0), (0, 0, 0), (0, 0, 0)], [(1, 4, 0, 0, 11, 0), (1, 7, 0, 0, 999, 0), (1, 0, 0, 999, 999, 0), (1, 3, 0, 0, 999, 0), (2, 3, 7, 1, 0, 0)], 0, 0), (15, [])),
  (10, ([(1, 7, 0), (0, 0, 0), (0, 0, 0), (8, 0, 0)], [(0, 0, 0), (1, 119, 0), (0, 0, 0), (0, 0, 0)], [(1, 4, 0, 0, 11, 0), (1, 7, 0, 0, 999, 0), (1, 0, 0, 999, 999, 0), (1, 3, 0, 0, 999, 0), (1, 9, 0, 36, 36, 0), (2, 3, 7, 1, 0, 0)], 0, 0), (14, []))]
def kd_X7_leftAfter_746df8_1 : List (Nat × sf_D × sf_M) := [(11, ([(1, 7, 0), (0, 0, 0), (0, 0, 0), (8, 0, 0)], [(0, 0, 0), (0, 0, 0), (1, 119, 0), (0, 0, 0), (0, 0, 0)], [(1, 4, 0, 0, 11, 0), (1, 7, 0, 0, 999, 0), (1, 0, 0, 999, 999, 0), (1, 3, 0, 0, 999, 0), (1, 9, 0, 36, 36, 0), (1, 12, 0, 0, 11, 0), (2, 3, 7, 1, 0, 0), (2, 12, 4, 1, 0, 0)], 0, 0), (13, [])),
  (12, ([(1, 7, 0), (0, 0, 0), (0, 0, 0), (8, 0, 0)], [(0, 0, 0), (1, 119, 0), (0, 0, 0), (0, 0, 0)], [(1, 4, 0, 0, 11, 0), (1, 7, 0, 0, 999, 0), (1, 0, 0, 999, 999, 0), (1, 3, 0, 0, 999, 0), (1, 9, 0, 36, 47, 0), (2, 3, 7, 1, 0, 0), (2, 9, 4, 1, 36, 0)], 0, 0), (12, [])),
  (13, ([(1, 7, 0), (0, 0, 0), (0, 0, 0), (8, 0, 0)], [(0, 0, 0), (0, 0, 0), (0, 0, 0)], [(1, 4, 0, 0, 11, 0), (1, 7, 0, 0, 999, 0), (1, 0, 0, 999, 999, 0), (1, 3, 0, 0, 999, 0), (1, 6, 0, 0, 250, 0), (2, 3, 7, 1, 0, 0)], 0, 0), (11, [])),
  (14, ([(1, 7, 0), (0, 0, 0), (0, 0, 0), (8, 0, 0)], [(0, 0, 0), (0, 0, 0)], [(1, 4, 0, 0, 11, 0), (1, 7, 0, 0, 999, 0), (1, 0, 0, 999, 999, 0), (1, 3, 0, 0, 1249, 0)], 0, 0), (10, [])),
  (17, ([(1, 7, 0), (0, 0, 0), (0, 0, 0), (8, 0, 0)], [(0, 0, 0)], [(1, 4, 0, 0, 11, 0), (1, 7, 0, 0, 999, 0), (1, 0, 0, 0, 999, 0)], 0, 0), (9, []))]
def kd_X7_leftAfter_746df8_2 : List (Nat × sf_D × sf_M) := [(18, ([(1, 7, 0), (0, 0, 0), (0, 0, 0), (0, 0, 0)], [], [(1, 4, 0, 0, 11, 0), (1, 7, 0, 0, 999, 0), (1, 10, 0, 0, 999, 0)], 0, 0), (8, [])),
  (19, ([(1, 7, 0), (0, 0, 0), (0, 0, 0), (0, 0, 0)], [(0, 0, 0)], [(1, 4, 0, 0, 11, 0), (1, 7, 0, 0, 999, 0), (1, 10, 0, 0, 999, 0), (1, 0, 0, 0, 999, 0), (2, 0, 10, 1, 0, 0)], 0, 0), (7, [])),
  (20, ([(1, 7, 0), (0, 0, 0), (0, 0, 0), (0, 0, 0)], [(1, 7, 0), (0, 0, 0)], [(1, 4, 0, 0, 11, 0), (1, 7, 0, 0, 999, 0), (1, 10, 0, 0, 999, 0), (1, 0, 0, 0, 999, 0), (2, 0, 10, 1, 0, 0)], 0, 0), (6, [])),
  (23, ([(1, 7, 0), (0, 0, 0), (0, 0, 0), (0, 0, 0)], [(1, 119, 0), (0, 0, 0)], [(1, 4, 0, 0, 11, 0), (1, 7, 0, 0, 999, 0), (1, 10, 0, 0, 999, 0), (1, 0, 0, 0, 999, 0), (2, 0, 10, 1, 0, 0)], 0, 0), (5, [])),
  (25, ([(1, 7, 0), (0, 0, 0), (0, 0, 0), (0, 0, 0)], [(0, 0, 0), (1, 119, 0), (0, 0, 0)], [(1, 4, 0, 0, 11, 0), (1, 7, 0, 0, 999, 0), (1, 10, 0, 0, 999, 0), (1, 0, 0, 0, 999, 0), (1, 6, 0, 24, 24, 0), (2, 0, 10, 1, 0, 0)], 0, 0), (4, []))]
def kd_X7_leftAfter_746df8_3 : List (Nat × sf_D × sf_M) := [(26, ([(1, 7, 0), (0, 0, 0), (0, 0, 0), (0, 0, 0)], [(0, 0, 0), (0, 0, 0), (1, 119, 0), (0, 0, 0)], [(1, 4, 0, 0, 11, 0), (1, 7, 0, 0, 999, 0), (1, 10, 0, 0, 999, 0), (1, 0, 0, 0, 999, 0), (1, 6, 0, 24, 24, 0), (1, 9, 0, 0, 11, 0), (2, 0, 10, 1, 0, 0), (2, 9, 4, 1, 0, 0)], 0, 0), (3, [])),
  (27, ([(1, 7, 0), (0, 0, 0), (0, 0, 0), (0, 0, 0)], [(0, 0, 0), (1, 119, 0), (0, 0, 0)], [(1, 4, 0, 0, 11, 0), (1, 7, 0, 0, 999, 0), (1, 10, 0, 0, 999, 0), (1, 0, 0, 0, 999, 0), (1, 6, 0, 24, 35, 0), (2, 0, 10, 1, 0, 0), (2, 6, 4, 1, 24, 0)], 0, 0), (2, [])),
  (28, ([(1, 7, 0), (0, 0, 0), (0, 0, 0), (0, 0, 0)], [(0, 0, 0), (0, 0, 0)], [(1, 4, 0, 0, 11, 0), (1, 7, 0, 0, 999, 0), (1, 10, 0, 0, 999, 0), (1, 0, 0, 0, 999, 0), (1, 3, 0, 0, 250, 0), (2, 0, 10, 1, 0, 0)], 0, 0), (1, [])),
  (29, ([(1, 7, 0), (0, 0, 0), (0, 0, 0), (0, 0, 0)], [(0, 0, 0)], [(1, 4, 0, 0, 11, 0), (1, 7, 0, 0, 999, 0), (1, 10, 0, 0, 999, 0), (1, 0, 0, -250, 999, 0)], 0, 0), (0, []))]
def kd_X7_leftAfter_746df8 : List (Nat × sf_D × sf_M) := kd_X7_leftAfter_746df8_0 ++ (kd_X7_leftAfter_746df8_1 ++ (kd_X7_leftAfter_746df8_2 ++ (kd_X7_leftAfter_746df8_3)))
set_option maxRecDepth 100000 in
theorem kt_X7_leftAfter_746df8 : sf_chk [] kq_X7_leftAfter_746df8 4 kc_X7_leftAfter_746df8 kd_X7_leftAfter_746df8 = true := by decide +kernel
set_option maxRecDepth 100000 in
theorem kl_X7_leftAfter_746df8 : (kc_X7_leftAfter_746df8).map (fun c => (c.1, sf_den ([] : List sf_X) c.2)) = L_X7_leftAfter := rfl
theorem ct_X7_leftAfter_746df8 : sf_ct kq_X7_leftAfter_746df8 Z_X7_leftAfter := by
  have h := sf_meth (K := []) (E := []) (k := kq_X7_leftAfter_746df8) (nL := 4) (C := kc_X7_leftAfter_746df8) (D := kd_X7_leftAfter_746df8) (fun m k hk => match m, hk with
    | _ + 0, hk => (by cases hk)) kt_X7_leftAfter_746df8
  rw [kl_X7_leftAfter_746df8] at h
  exact h
def kq_X6_makeAndEat_8768d4 : sf_Q := ([(1, 13, 0), (1, 7, 0)], [], none, [], [(156, 0, 11), (158, 0, 11)])
def kc_X6_makeAndEat_8768d4 : List (Nat × sf_I) := [(0, 0, [1, 0]),
  (1, 5, [2, 2]),
  (2, 2, [3, 2]),
  (3, 0, [4, 2]),
  (4, 4, [5, 1]),
  (5, 23, [8, 7, 8]),
  (8, 9, [9, 2]),
  (9, 21, [12, 55, 5]),
  (12, 4, [13, 1]),
  (13, 2, [14, 2]),
  (14, 4, [15, 0]),
  (15, 23, [18, 6, 0]),
  (18, 2, [19, 2]),
  (19, 25, [20, 1]),
  (20, 32, [23, 0, 3, 7, 0, 0, 0, 0]),
  (23, 5, [24, 3]),
  (24, 2, [25, 3]),
  (25, 20, [28, 38, 5]),
  (28, 4, [29, 0]),
  (29, 23, [32, 6, 2]),
  (32, 2, [33, 2]),
  (33, 18, [34]),
  (34, 25, [35, 1]),
  (35, 2, [36, 3]),
  (36, 9, [37, 1]),
  (37, 28, [38, 1]),
  (38, 4, [39, 0]),
  (39, 23, [42, 6, 0]),
  (42, 2, [43, 2]),
  (43, 0, [44, 0]),
  (44, 2, [45, 3]),
  (45, 33, [48, 0, 0, 0]),
  (48, 28, [49, 1]),
  (49, 8, [52, 2, 1]),
  (52, 22, [2]),
  (55, 37, [0, 0])]
def kd_X6_makeAndEat_8768d4_0 : List (Nat × sf_D × sf_M) := [(0, ([(1, 13, 0), (1, 7, 0), (8, 0, 0), (8, 0, 0)], [], [], 0, 0), (453, [])),
  (1, ([(1, 13, 0), (1, 7, 0), (8, 0, 0), (8, 0, 0)], [(0, 0, 0)], [(1, 0, 0, 0, 0, 0)], 0, 0), (452, [])),
  (2, ([(1, 13, 0), (1, 7, 0), (0, 0, 0), (8, 0, 0)], [], [(1, 7, 0, 0, 12, 0)], 0, 0), (31, [(35, 7, 12, 0)])),
  (3, ([(1, 13, 0), (1, 7, 0), (0, 0, 0), (8, 0, 0)], [(0, 0, 0)], [(1, 7, 0, 0, 12, 0), (1, 0, 0, 0, 12, 0), (2, 0, 7, 1, 0, 0)], 0, 0), (30, [(35, 7, 12, 0)])),
  (4, ([(1, 13, 0), (1, 7, 0), (0, 0, 0), (8, 0, 0)], [(0, 0, 0), (0, 0, 0)], [(1, 7, 0, 0, 12, 0), (1, 0, 0, 0, 12, 0), (1, 3, 0, 2, 2, 0), (2, 0, 7, 1, 0, 0)], 0, 0), (29, [(35, 7, 12, 0)])),
  (5, ([(1, 13, 0), (1, 7, 0), (0, 0, 0), (8, 0, 0)], [(1, 7, 0), (0, 0, 0), (0, 0, 0)], [(1, 7, 0, 0, 12, 0), (1, 0, 0, 0, 12, 0), (1, 3, 0, 2, 2, 0), (2, 0, 7, 1, 0, 0)], 0, 0), (28, [(35, 7, 12, 0)])),
  (8, ([(1, 13, 0), (1, 7, 0), (0, 0, 0), (8, 0, 0)], [(0, 0, 6), (0, 0, 0), (0, 0, 0)], [(1, 7, 0, 0, 12, 0), (1, 0, 0, 0, 12, 0), (1, 3, 0, 2, 2, 0), (1, 6, 0, 0, 6, 0), (2, 0, 7, 1, 0, 0)], 0, 0), (27, [(35, 7, 12, 0)])),
  (9, ([(1, 13, 0), (1, 7, 0), (0, 0, 0), (8, 0, 0)], [(0, 0, 0), (0, 0, 0)], [(1, 7, 0, 0, 12, 0), (1, 0, 0, 0, 12, 0), (1, 3, 0, 0, 12, 0), (2, 0, 7, 1, 0, 0)], 0, 0), (26, [(35, 7, 12, 0)]))]
def kd_X6_makeAndEat_8768d4_1 : List (Nat × sf_D × sf_M) := [(12, ([(1, 13, 0), (1, 7, 0), (0, 0, 0), (8, 0, 0)], [], [(1, 7, 0, 0, 11, 0)], 0, 0), (25, [(35, 7, 12, 0)])),
  (13, ([(1, 13, 0), (1, 7, 0), (0, 0, 0), (8, 0, 0)], [(1, 7, 0)], [(1, 7, 0, 0, 11, 0)], 0, 0), (24, [(35, 7, 12, 0)])),
  (14, ([(1, 13, 0), (1, 7, 0), (0, 0, 0), (8, 0, 0)], [(0, 0, 0), (1, 7, 0)], [(1, 7, 0, 0, 11, 0), (1, 3, 0, 0, 11, 0), (2, 3, 7, 1, 0, 0)], 0, 0), (23, [(35, 7, 12, 0)])),
  (15, ([(1, 13, 0), (1, 7, 0), (0, 0, 0), (8, 0, 0)], [(1, 13, 0), (0, 0, 0), (1, 7, 0)], [(1, 7, 0, 0, 11, 0), (1, 3, 0, 0, 11, 0), (2, 3, 7, 1, 0, 0)], 0, 0), (22, [(35, 7, 12, 0)])),
  (18, ([(1, 13, 0), (1, 7, 0), (0, 0, 0), (8, 0, 0)], [(1, 156, 0), (0, 0, 0), (1, 7, 0)], [(1, 7, 0, 0, 11, 0), (1, 3, 0, 0, 11, 0), (2, 3, 7, 1, 0, 0)], 0, 0), (21, [(35, 7, 12, 0)])),
  (19, ([(1, 13, 0), (1, 7, 0), (0, 0, 0), (8, 0, 0)], [(0, 0, 0), (1, 156, 0), (0, 0, 0), (1, 7, 0)], [(1, 7, 0, 0, 11, 0), (1, 3, 0, 0, 11, 0), (1, 9, 0, 0, 11, 0), (2, 3, 7, 1, 0, 0), (2, 9, 7, 1, 0, 0)], 0, 0), (20, [(35, 7, 12, 0)])),
  (20, ([(1, 13, 0), (1, 7, 0), (0, 0, 0), (8, 0, 0)], [(0, 0, 0), (0, 0, 0), (1, 7, 0)], [(1, 7, 0, 0, 11, 0), (1, 3, 0, 0, 11, 0), (1, 6, 0, 0, 999, 0), (2, 3, 7, 1, 0, 0)], 0, 0), (19, [(35, 7, 12, 0)])),
  (23, ([(1, 13, 0), (1, 7, 0), (0, 0, 0), (8, 0, 0)], [(0, 0, 0)], [(1, 7, 0, 0, 11, 0), (1, 0, 0, -250, 999, 0)], 0, 0), (18, [(35, 7, 12, 0)]))]
def kd_X6_makeAndEat_8768d4_2 : List (Nat × sf_D × sf_M) := [(24, ([(1, 13, 0), (1, 7, 0), (0, 0, 0), (0, 0, 0)], [], [(1, 7, 0, 0, 11, 0), (1, 10, 0, -250, 999, 0)], 0, 0), (17, [(35, 7, 12, 0)])),
  (25, ([(1, 13, 0), (1, 7, 0), (0, 0, 0), (0, 0, 0)], [(0, 0, 0)], [(1, 7, 0, 0, 11, 0), (1, 10, 0, -250, 999, 0), (1, 0, 0, -250, 999, 0), (2, 0, 10, 1, 0, 0)], 0, 0), (16, [(35, 7, 12, 0)])),
  (28, ([(1, 13, 0), (1, 7, 0), (0, 0, 0), (0, 0, 0)], [], [(1, 7, 0, 0, 11, 0), (1, 10, 0, -250, -1, 0)], 0, 0), (15, [(35, 7, 12, 0)])),
  (29, ([(1, 13, 0), (1, 7, 0), (0, 0, 0), (0, 0, 0)], [(1, 13, 0)], [(1, 7, 0, 0, 11, 0), (1, 10, 0, -250, -1, 0)], 0, 0), (14, [(35, 7, 12, 0)])),
  (32, ([(1, 13, 0), (1, 7, 0), (0, 0, 0), (0, 0, 0)], [(1, 158, 0)], [(1, 7, 0, 0, 11, 0), (1, 10, 0, -250, -1, 0)], 0, 0), (13, [(35, 7, 12, 0)])),
  (33, ([(1, 13, 0), (1, 7, 0), (0, 0, 0), (0, 0, 0)], [(0, 0, 0), (1, 158, 0)], [(1, 7, 0, 0, 11, 0), (1, 10, 0, -250, -1, 0), (1, 3, 0, 0, 11, 0), (2, 3, 7, 1, 0, 0)], 0, 0), (12, [(35, 7, 12, 0)])),
  (34, ([(1, 13, 0), (1, 7, 0), (0, 0, 0), (0, 0, 0)], [(0, 0, 0), (1, 158, 0), (0, 0, 0), (1, 158, 0)], [(1, 7, 0, 0, 11, 0), (1, 10, 0, -250, -1, 0), (1, 3, 0, 0, 11, 0), (1, 9, 0, 0, 11, 0), (2, 3, 7, 1, 0, 0), (2, 9, 3, 1, 0, 0)], 0, 0), (11, [(35, 7, 12, 0)]))]
def kd_X6_makeAndEat_8768d4_3 : List (Nat × sf_D × sf_M) := [(35, ([(1, 13, 0), (1, 7, 0), (0, 0, 0), (0, 0, 0)], [(0, 0, 0), (0, 0, 0), (1, 158, 0)], [(1, 7, 0, 0, 11, 0), (1, 10, 0, -250, -1, 0), (1, 3, 0, 0, 11, 0), (1, 6, 0, -2147483648, 2147483647, 0), (2, 3, 7, 1, 0, 0)], 0, 0), (10, [(35, 7, 12, 0)])),
  (36, ([(1, 13, 0), (1, 7, 0), (0, 0, 0), (0, 0, 0)], [(0, 0, 0), (0, 0, 0), (0, 0, 0), (1, 158, 0)], [(1, 7, 0, 0, 11, 0), (1, 10, 0, -250, -1, 0), (1, 3, 0, 0, 11, 0), (1, 6, 0, -2147483648, 2147483647, 0), (1, 9, 0, -250, -1, 0), (2, 3, 7, 1, 0, 0), (2, 9, 10, 1, 0, 0)], 0, 0), (9, [(35, 7, 12, 0)])),
  (37, ([(1, 13, 0), (1, 7, 0), (0, 0, 0), (0, 0, 0)], [(0, 0, 0), (0, 0, 0), (1, 158, 0)], [(1, 7, 0, 0, 11, 0), (1, 10, 0, -250, -1, 0), (1, 3, 0, 0, 11, 0), (1, 6, 0, -2147483648, 2147483647, 0), (2, 3, 7, 1, 0, 0)], 0, 0), (8, [(35, 7, 12, 0)])),
  (38, ([(1, 13, 0), (1, 7, 0), (0, 0, 0), (0, 0, 0)], [], [(1, 7, 0, 0, 11, 0), (1, 10, 0, -250, 999, 0)], 0, 0), (7, [(35, 7, 12, 0)])),
  (39, ([(1, 13, 0), (1, 7, 0), (0, 0, 0), (0, 0, 0)], [(1, 13, 0)], [(1, 7, 0, 0, 11, 0), (1, 10, 0, -250, 999, 0)], 0, 0), (6, [(35, 7, 12, 0)])),
  (42, ([(1, 13, 0), (1, 7, 0), (0, 0, 0), (0, 0, 0)], [(1, 156, 0)], [(1, 7, 0, 0, 11, 0), (1, 10, 0, -250, 999, 0)], 0, 0), (5, [(35, 7, 12, 0)]))]
def kd_X6_makeAndEat_8768d4_4 : List (Nat × sf_D × sf_M) := [(43, ([(1, 13, 0), (1, 7, 0), (0, 0, 0), (0, 0, 0)], [(0, 0, 0), (1, 156, 0)], [(1, 7, 0, 0, 11, 0), (1, 10, 0, -250, 999, 0), (1, 3, 0, 0, 11, 0), (2, 3, 7, 1, 0, 0)], 0, 0), (4, [(35, 7, 12, 0)])),
  (44, ([(1, 13, 0), (1, 7, 0), (0, 0, 0), (0, 0, 0)], [(0, 0, 0), (0, 0, 0), (1, 156, 0)], [(1, 7, 0, 0, 11, 0), (1, 10, 0, -250, 999, 0), (1, 3, 0, 0, 11, 0), (1, 6, 0, 0, 0, 0), (2, 3, 7, 1, 0, 0)], 0, 0), (3, [(35, 7, 12, 0)])),
  (45, ([(1, 13, 0), (1, 7, 0), (0, 0, 0), (0, 0, 0)], [(0, 0, 0), (0, 0, 0), (0, 0, 0), (1, 156, 0)], [(1, 7, 0, 0, 11, 0), (1, 10, 0, -250, 999, 0), (1, 3, 0, 0, 11, 0), (1, 6, 0, 0, 0, 0), (1, 9, 0, -250, 999, 0), (2, 3, 7, 1, 0, 0), (2, 9, 10, 1, 0, 0)], 0, 0), (2, [(35, 7, 12, 0)])),
  (48, ([(1, 13, 0), (1, 7, 0), (0, 0, 0), (0, 0, 0)], [(0, 0, 0), (0, 0, 0), (1, 156, 0)], [(1, 7, 0, 0, 11, 0), (1, 10, 0, -250, 999, 0), (1, 3, 0, 0, 11, 0), (1, 6, 0, 0, 999, 0), (2, 3, 7, 1, 0, 0)], 0, 0), (1, [(35, 7, 12, 0)])),
  (49, ([(1, 13, 0), (1, 7, 0), (0, 0, 0), (0, 0, 0)], [], [(1, 7, 0, 0, 11, 0), (1, 10, 0, -250, 999, 0)], 0, 0), (0, [(35, 7, 12, 0)])),
  (52, ([(1, 13, 0), (1, 7, 0), (0, 0, 0), (0, 0, 0)], [], [(1, 10, 0, -250, 999, 0), (1, 7, 0, 1, 12, 0)], 0, 0), (32, [(35, 7, 12, 0)])),
  (55, ([(1, 13, 0), (1, 7, 0), (0, 0, 0), (8, 0, 0)], [], [(1, 7, 0, 0, 12, 0)], 0, 0), (0, []))]
def kd_X6_makeAndEat_8768d4 : List (Nat × sf_D × sf_M) := kd_X6_makeAndEat_8768d4_0 ++ (kd_X6_makeAndEat_8768d4_1 ++ (kd_X6_makeAndEat_8768d4_2 ++ (kd_X6_makeAndEat_8768d4_3 ++ (kd_X6_makeAndEat_8768d4_4))))
set_option maxRecDepth 100000 in
theorem kt_X6_makeAndEat_8768d4 : sf_chk [kq_X7_leftAfter_746df8] kq_X6_makeAndEat_8768d4 4 kc_X6_makeAndEat_8768d4 kd_X6_makeAndEat_8768d4 = true := by decide +kernel
set_option maxRecDepth 100000 in
theorem kl_X6_makeAndEat_8768d4 : (kc_X6_makeAndEat_8768d4).map (fun c => (c.1, sf_den ([Z_X7_leftAfter] : List sf_X) c.2)) = L_X6_makeAndEat Z_X7_leftAfter := rfl
theorem ct_X6_makeAndEat_8768d4 : sf_ct kq_X6_makeAndEat_8768d4 Z_X6_makeAndEat := by
  have h := sf_meth (K := [kq_X7_leftAfter_746df8]) (E := [Z_X7_leftAfter]) (k := kq_X6_makeAndEat_8768d4) (nL := 4) (C := kc_X6_makeAndEat_8768d4) (D := kd_X6_makeAndEat_8768d4) (fun m k hk => match m, hk with
    | 0, hk => (Option.some.inj hk) ▸ ct_X7_leftAfter_746df8
    | _ + 1, hk => (by cases hk)) kt_X6_makeAndEat_8768d4
  rw [kl_X6_makeAndEat_8768d4] at h
  exact h
def kq_X6_countApart_8768d4 : sf_Q := ([(1, 13, 0), (1, 7, 0)], [], none, [], [(162, 8, 62)])
def kc_X6_countApart_8768d4 : List (Nat × sf_I) := [(0, 0, [1, 0]),
  (1, 5, [2, 2]),
  (2, 2, [3, 2]),
  (3, 4, [4, 1]),
  (4, 23, [7, 7, 9]),
  (7, 21, [10, 74, 5]),
  (10, 0, [11, 0]),
  (11, 5, [12, 3]),
  (12, 2, [13, 3]),
  (13, 2, [14, 2]),
  (14, 21, [17, 68, 5]),
  (17, 2, [18, 2]),
  (18, 0, [20, 8]),
  (20, 9, [21, 2]),
  (21, 2, [22, 3]),
  (22, 9, [23, 0]),
  (23, 5, [25, 4]),
  (25, 4, [26, 0]),
  (26, 23, [29, 6, 4]),
  (29, 2, [30, 2]),
  (30, 25, [31, 1]),
  (31, 4, [32, 0]),
  (32, 23, [35, 6, 4]),
  (35, 2, [36, 3]),
  (36, 25, [37, 1]),
  (37, 21, [40, 51, 1]),
  (40, 4, [41, 0]),
  (41, 23, [44, 6, 6]),
  (44, 2, [46, 4]),
  (46, 0, [47, 0]),
  (47, 28, [48, 1]),
  (48, 22, [62]),
  (51, 4, [52, 0]),
  (52, 23, [55, 6, 6]),
  (55, 2, [57, 4]),
  (57, 18, [58]),
  (58, 25, [59, 1]),
  (59, 0, [60, 1]),
  (60, 9, [61, 0]),
  (61, 28, [62, 1]),
  (62, 8, [65, 3, 1]),
  (65, 22, [12]),
  (68, 8, [71, 2, 1]),
  (71, 22, [2]),
  (74, 37, [0, 0])]
def kd_X6_countApart_8768d4_0 : List (Nat × sf_D × sf_M) := [(0, ([(1, 13, 0), (1, 7, 0), (8, 0, 0), (8, 0, 0), (8, 0, 0)], [], [], 0, 0), (2654, [])),
  (1, ([(1, 13, 0), (1, 7, 0), (8, 0, 0), (8, 0, 0), (8, 0, 0)], [(0, 0, 0)], [(1, 0, 0, 0, 0, 0)], 0, 0), (2653, [])),
  (2, ([(1, 13, 0), (1, 7, 0), (0, 0, 0), (8, 0, 0), (8, 0, 0)], [], [(1, 7, 0, 0, 8, 0)], 0, 0), (284, [(296, 7, 8, 0)])),
  (3, ([(1, 13, 0), (1, 7, 0), (0, 0, 0), (8, 0, 0), (8, 0, 0)], [(0, 0, 0)], [(1, 7, 0, 0, 8, 0), (1, 0, 0, 0, 8, 0), (2, 0, 7, 1, 0, 0)], 0, 0), (283, [(296, 7, 8, 0)])),
  (4, ([(1, 13, 0), (1, 7, 0), (0, 0, 0), (8, 0, 0), (8, 0, 0)], [(1, 7, 0), (0, 0, 0)], [(1, 7, 0, 0, 8, 0), (1, 0, 0, 0, 8, 0), (2, 0, 7, 1, 0, 0)], 0, 0), (282, [(296, 7, 8, 0)])),
  (7, ([(1, 13, 0), (1, 7, 0), (0, 0, 0), (8, 0, 0), (8, 0, 0)], [(0, 0, 8), (0, 0, 0)], [(1, 7, 0, 0, 8, 0), (1, 0, 0, 0, 8, 0), (1, 3, 0, 0, 8, 0), (2, 0, 7, 1, 0, 0)], 0, 0), (281, [(296, 7, 8, 0)])),
  (10, ([(1, 13, 0), (1, 7, 0), (0, 0, 0), (8, 0, 0), (8, 0, 0)], [], [(1, 7, 0, 0, 7, 0)], 0, 0), (280, [(296, 7, 8, 0)])),
  (11, ([(1, 13, 0), (1, 7, 0), (0, 0, 0), (8, 0, 0), (8, 0, 0)], [(0, 0, 0)], [(1, 7, 0, 0, 7, 0), (1, 0, 0, 0, 0, 0)], 0, 0), (279, [(296, 7, 8, 0)])),
  (12, ([(1, 13, 0), (1, 7, 0), (0, 0, 0), (0, 0, 0), (8, 0, 0)], [], [(1, 7, 0, 0, 7, 0), (1, 10, 0, 0, 7, 0), (3, 10, 7, 1, 7, 0)], 0, 0), (26, [(296, 7, 8, 0), (36, 10, 7, 0)]))]
def kd_X6_countApart_8768d4_1 : List (Nat × sf_D × sf_M) := [(13, ([(1, 13, 0), (1, 7, 0), (0, 0, 0), (0, 0, 0), (8, 0, 0)], [(0, 0, 0)], [(1, 7, 0, 0, 7, 0), (1, 10, 0, 0, 7, 0), (1, 0, 0, 0, 7, 0), (3, 10, 7, 1, 7, 0), (2, 0, 10, 1, 0, 0)], 0, 0), (25, [(296, 7, 8, 0), (36, 10, 7, 0)])),
  (14, ([(1, 13, 0), (1, 7, 0), (0, 0, 0), (0, 0, 0), (8, 0, 0)], [(0, 0, 0), (0, 0, 0)], [(1, 7, 0, 0, 7, 0), (1, 10, 0, 0, 7, 0), (1, 0, 0, 0, 7, 0), (1, 3, 0, 0, 7, 0), (3, 10, 7, 1, 7, 0), (2, 0, 10, 1, 0, 0), (2, 3, 7, 1, 0, 0)], 0, 0), (24, [(296, 7, 8, 0), (36, 10, 7, 0)])),
  (17, ([(1, 13, 0), (1, 7, 0), (0, 0, 0), (0, 0, 0), (8, 0, 0)], [], [(1, 7, 0, 1, 7, 0), (1, 10, 0, 0, 6, 0)], 0, 0), (23, [(296, 7, 8, 0), (36, 10, 7, 0)])),
  (18, ([(1, 13, 0), (1, 7, 0), (0, 0, 0), (0, 0, 0), (8, 0, 0)], [(0, 0, 0)], [(1, 7, 0, 1, 7, 0), (1, 10, 0, 0, 6, 0), (1, 0, 0, 1, 7, 0), (2, 0, 7, 1, 0, 0)], 0, 0), (22, [(296, 7, 8, 0), (36, 10, 7, 0)])),
  (20, ([(1, 13, 0), (1, 7, 0), (0, 0, 0), (0, 0, 0), (8, 0, 0)], [(0, 0, 0), (0, 0, 0)], [(1, 7, 0, 1, 7, 0), (1, 10, 0, 0, 6, 0), (1, 0, 0, 1, 7, 0), (1, 3, 0, 8, 8, 0), (2, 0, 7, 1, 0, 0)], 0, 0), (21, [(296, 7, 8, 0), (36, 10, 7, 0)])),
  (21, ([(1, 13, 0), (1, 7, 0), (0, 0, 0), (0, 0, 0), (8, 0, 0)], [(0, 0, 0)], [(1, 7, 0, 1, 7, 0), (1, 10, 0, 0, 6, 0), (1, 0, 0, 8, 56, 0), (2, 0, 7, 8, 0, 0)], 0, 0), (20, [(296, 7, 8, 0), (36, 10, 7, 0)]))]
def kd_X6_countApart_8768d4_2 : List (Nat × sf_D × sf_M) := [(22, ([(1, 13, 0), (1, 7, 0), (0, 0, 0), (0, 0, 0), (8, 0, 0)], [(0, 0, 0), (0, 0, 0)], [(1, 7, 0, 1, 7, 0), (1, 10, 0, 0, 6, 0), (1, 0, 0, 8, 56, 0), (1, 3, 0, 0, 6, 0), (2, 0, 7, 8, 0, 0), (2, 3, 10, 1, 0, 0)], 0, 0), (19, [(296, 7, 8, 0), (36, 10, 7, 0)])),
  (23, ([(1, 13, 0), (1, 7, 0), (0, 0, 0), (0, 0, 0), (8, 0, 0)], [(0, 0, 0)], [(1, 7, 0, 1, 7, 0), (1, 10, 0, 0, 6, 0), (1, 0, 0, 8, 62, 0)], 0, 0), (18, [(296, 7, 8, 0), (36, 10, 7, 0)])),
  (25, ([(1, 13, 0), (1, 7, 0), (0, 0, 0), (0, 0, 0), (0, 0, 0)], [], [(1, 7, 0, 1, 7, 0), (1, 10, 0, 0, 6, 0), (1, 13, 0, 8, 62, 0)], 0, 0), (17, [(296, 7, 8, 0), (36, 10, 7, 0)])),
  (26, ([(1, 13, 0), (1, 7, 0), (0, 0, 0), (0, 0, 0), (0, 0, 0)], [(1, 13, 0)], [(1, 7, 0, 1, 7, 0), (1, 10, 0, 0, 6, 0), (1, 13, 0, 8, 62, 0)], 0, 0), (16, [(296, 7, 8, 0), (36, 10, 7, 0)])),
  (29, ([(1, 13, 0), (1, 7, 0), (0, 0, 0), (0, 0, 0), (0, 0, 0)], [(1, 160, 0)], [(1, 7, 0, 1, 7, 0), (1, 10, 0, 0, 6, 0), (1, 13, 0, 8, 62, 0)], 0, 0), (15, [(296, 7, 8, 0), (36, 10, 7, 0)])),
  (30, ([(1, 13, 0), (1, 7, 0), (0, 0, 0), (0, 0, 0), (0, 0, 0)], [(0, 0, 0), (1, 160, 0)], [(1, 7, 0, 1, 7, 0), (1, 10, 0, 0, 6, 0), (1, 13, 0, 8, 62, 0), (1, 3, 0, 1, 7, 0), (2, 3, 7, 1, 0, 0)], 0, 0), (14, [(296, 7, 8, 0), (36, 10, 7, 0)]))]
def kd_X6_countApart_8768d4_3 : List (Nat × sf_D × sf_M) := [(31, ([(1, 13, 0), (1, 7, 0), (0, 0, 0), (0, 0, 0), (0, 0, 0)], [(0, 0, 0)], [(1, 7, 0, 1, 7, 0), (1, 10, 0, 0, 6, 0), (1, 13, 0, 8, 62, 0), (1, 0, 0, -2147483648, 2147483647, 0)], 0, 0), (13, [(296, 7, 8, 0), (36, 10, 7, 0)])),
  (32, ([(1, 13, 0), (1, 7, 0), (0, 0, 0), (0, 0, 0), (0, 0, 0)], [(1, 13, 0), (0, 0, 0)], [(1, 7, 0, 1, 7, 0), (1, 10, 0, 0, 6, 0), (1, 13, 0, 8, 62, 0), (1, 0, 0, -2147483648, 2147483647, 0)], 0, 0), (12, [(296, 7, 8, 0), (36, 10, 7, 0)])),
  (35, ([(1, 13, 0), (1, 7, 0), (0, 0, 0), (0, 0, 0), (0, 0, 0)], [(1, 160, 0), (0, 0, 0)], [(1, 7, 0, 1, 7, 0), (1, 10, 0, 0, 6, 0), (1, 13, 0, 8, 62, 0), (1, 0, 0, -2147483648, 2147483647, 0)], 0, 0), (11, [(296, 7, 8, 0), (36, 10, 7, 0)])),
  (36, ([(1, 13, 0), (1, 7, 0), (0, 0, 0), (0, 0, 0), (0, 0, 0)], [(0, 0, 0), (1, 160, 0), (0, 0, 0)], [(1, 7, 0, 1, 7, 0), (1, 10, 0, 0, 6, 0), (1, 13, 0, 8, 62, 0), (1, 0, 0, -2147483648, 2147483647, 0), (1, 6, 0, 0, 6, 0), (2, 6, 10, 1, 0, 0)], 0, 0), (10, [(296, 7, 8, 0), (36, 10, 7, 0)])),
  (37, ([(1, 13, 0), (1, 7, 0), (0, 0, 0), (0, 0, 0), (0, 0, 0)], [(0, 0, 0), (0, 0, 0)], [(1, 7, 0, 1, 7, 0), (1, 10, 0, 0, 6, 0), (1, 13, 0, 8, 62, 0), (1, 0, 0, -2147483648, 2147483647, 0), (1, 3, 0, -2147483648, 2147483647, 0)], 0, 0), (9, [(296, 7, 8, 0), (36, 10, 7, 0)])),
  (40, ([(1, 13, 0), (1, 7, 0), (0, 0, 0), (0, 0, 0), (0, 0, 0)], [], [(1, 7, 0, 1, 7, 0), (1, 10, 0, 0, 6, 0), (1, 13, 0, 8, 62, 0)], 0, 0), (6, [(296, 7, 8, 0), (36, 10, 7, 0)]))]
def kd_X6_countApart_8768d4_4 : List (Nat × sf_D × sf_M) := [(41, ([(1, 13, 0), (1, 7, 0), (0, 0, 0), (0, 0, 0), (0, 0, 0)], [(1, 13, 0)], [(1, 7, 0, 1, 7, 0), (1, 10, 0, 0, 6, 0), (1, 13, 0, 8, 62, 0)], 0, 0), (5, [(296, 7, 8, 0), (36, 10, 7, 0)])),
  (44, ([(1, 13, 0), (1, 7, 0), (0, 0, 0), (0, 0, 0), (0, 0, 0)], [(1, 162, 0)], [(1, 7, 0, 1, 7, 0), (1, 10, 0, 0, 6, 0), (1, 13, 0, 8, 62, 0)], 0, 0), (4, [(296, 7, 8, 0), (36, 10, 7, 0)])),
  (46, ([(1, 13, 0), (1, 7, 0), (0, 0, 0), (0, 0, 0), (0, 0, 0)], [(0, 0, 0), (1, 162, 0)], [(1, 7, 0, 1, 7, 0), (1, 10, 0, 0, 6, 0), (1, 13, 0, 8, 62, 0), (1, 3, 0, 8, 62, 0), (2, 3, 13, 1, 0, 0)], 0, 0), (3, [(296, 7, 8, 0), (36, 10, 7, 0)])),
  (47, ([(1, 13, 0), (1, 7, 0), (0, 0, 0), (0, 0, 0), (0, 0, 0)], [(0, 0, 0), (0, 0, 0), (1, 162, 0)], [(1, 7, 0, 1, 7, 0), (1, 10, 0, 0, 6, 0), (1, 13, 0, 8, 62, 0), (1, 3, 0, 8, 62, 0), (1, 6, 0, 0, 0, 0), (2, 3, 13, 1, 0, 0)], 0, 0), (2, [(296, 7, 8, 0), (36, 10, 7, 0)])),
  (48, ([(1, 13, 0), (1, 7, 0), (0, 0, 0), (0, 0, 0), (0, 0, 0)], [], [(1, 7, 0, 1, 7, 0), (1, 10, 0, 0, 6, 0), (1, 13, 0, 8, 62, 0)], 0, 0), (1, [(296, 7, 8, 0), (36, 10, 7, 0)])),
  (51, ([(1, 13, 0), (1, 7, 0), (0, 0, 0), (0, 0, 0), (0, 0, 0)], [], [(1, 7, 0, 1, 7, 0), (1, 10, 0, 0, 6, 0), (1, 13, 0, 8, 62, 0)], 0, 0), (8, [(296, 7, 8, 0), (36, 10, 7, 0)])),
  (52, ([(1, 13, 0), (1, 7, 0), (0, 0, 0), (0, 0, 0), (0, 0, 0)], [(1, 13, 0)], [(1, 7, 0, 1, 7, 0), (1, 10, 0, 0, 6, 0), (1, 13, 0, 8, 62, 0)], 0, 0), (7, [(296, 7, 8, 0), (36, 10, 7, 0)]))]
def kd_X6_countApart_8768d4_5 : List (Nat × sf_D × sf_M) := [(55, ([(1, 13, 0), (1, 7, 0), (0, 0, 0), (0, 0, 0), (0, 0, 0)], [(1, 162, 0)], [(1, 7, 0, 1, 7, 0), (1, 10, 0, 0, 6, 0), (1, 13, 0, 8, 62, 0)], 0, 0), (6, [(296, 7, 8, 0), (36, 10, 7, 0)])),
  (57, ([(1, 13, 0), (1, 7, 0), (0, 0, 0), (0, 0, 0), (0, 0, 0)], [(0, 0, 0), (1, 162, 0)], [(1, 7, 0, 1, 7, 0), (1, 10, 0, 0, 6, 0), (1, 13, 0, 8, 62, 0), (1, 3, 0, 8, 62, 0), (2, 3, 13, 1, 0, 0)], 0, 0), (5, [(296, 7, 8, 0), (36, 10, 7, 0)])),
  (58, ([(1, 13, 0), (1, 7, 0), (0, 0, 0), (0, 0, 0), (0, 0, 0)], [(0, 0, 0), (1, 162, 0), (0, 0, 0), (1, 162, 0)], [(1, 7, 0, 1, 7, 0), (1, 10, 0, 0, 6, 0), (1, 13, 0, 8, 62, 0), (1, 3, 0, 8, 62, 0), (1, 9, 0, 8, 62, 0), (2, 3, 13, 1, 0, 0), (2, 9, 3, 1, 0, 0)], 0, 0), (4, [(296, 7, 8, 0), (36, 10, 7, 0)])),
  (59, ([(1, 13, 0), (1, 7, 0), (0, 0, 0), (0, 0, 0), (0, 0, 0)], [(0, 0, 0), (0, 0, 0), (1, 162, 0)], [(1, 7, 0, 1, 7, 0), (1, 10, 0, 0, 6, 0), (1, 13, 0, 8, 62, 0), (1, 3, 0, 8, 62, 0), (1, 6, 0, -2147483648, 2147483647, 0), (2, 3, 13, 1, 0, 0)], 0, 0), (3, [(296, 7, 8, 0), (36, 10, 7, 0)])),
  (60, ([(1, 13, 0), (1, 7, 0), (0, 0, 0), (0, 0, 0), (0, 0, 0)], [(0, 0, 0), (0, 0, 0), (0, 0, 0), (1, 162, 0)], [(1, 7, 0, 1, 7, 0), (1, 10, 0, 0, 6, 0), (1, 13, 0, 8, 62, 0), (1, 3, 0, 8, 62, 0), (1, 6, 0, -2147483648, 2147483647, 0), (1, 9, 0, 1, 1, 0), (2, 3, 13, 1, 0, 0)], 0, 0), (2, [(296, 7, 8, 0), (36, 10, 7, 0)]))]
def kd_X6_countApart_8768d4_6 : List (Nat × sf_D × sf_M) := [(61, ([(1, 13, 0), (1, 7, 0), (0, 0, 0), (0, 0, 0), (0, 0, 0)], [(0, 0, 0), (0, 0, 0), (1, 162, 0)], [(1, 7, 0, 1, 7, 0), (1, 10, 0, 0, 6, 0), (1, 13, 0, 8, 62, 0), (1, 3, 0, 8, 62, 0), (1, 6, 0, -2147483648, 2147483647, 0), (2, 3, 13, 1, 0, 0)], 0, 0), (1, [(296, 7, 8, 0), (36, 10, 7, 0)])),
  (62, ([(1, 13, 0), (1, 7, 0), (0, 0, 0), (0, 0, 0), (0, 0, 0)], [], [(1, 7, 0, 1, 7, 0), (1, 10, 0, 0, 6, 0), (1, 13, 0, 8, 62, 0)], 0, 0), (0, [(296, 7, 8, 0), (36, 10, 7, 0)])),
  (65, ([(1, 13, 0), (1, 7, 0), (0, 0, 0), (0, 0, 0), (0, 0, 0)], [], [(1, 7, 0, 1, 7, 0), (1, 13, 0, 8, 62, 0), (1, 10, 0, 1, 7, 0)], 0, 0), (27, [(296, 7, 8, 0), (36, 10, 7, 0)])),
  (68, ([(1, 13, 0), (1, 7, 0), (0, 0, 0), (0, 0, 0), (8, 0, 0)], [], [(1, 7, 0, 0, 7, 0), (1, 10, 0, 0, 7, 0)], 0, 0), (0, [(296, 7, 8, 0)])),
  (71, ([(1, 13, 0), (1, 7, 0), (0, 0, 0), (0, 0, 0), (8, 0, 0)], [], [(1, 10, 0, 0, 7, 0), (1, 7, 0, 1, 8, 0)], 0, 0), (285, [(296, 7, 8, 0)])),
  (74, ([(1, 13, 0), (1, 7, 0), (0, 0, 0), (8, 0, 0), (8, 0, 0)], [], [(1, 7, 0, 0, 8, 0)], 0, 0), (0, []))]
def kd_X6_countApart_8768d4 : List (Nat × sf_D × sf_M) := kd_X6_countApart_8768d4_0 ++ (kd_X6_countApart_8768d4_1 ++ (kd_X6_countApart_8768d4_2 ++ (kd_X6_countApart_8768d4_3 ++ (kd_X6_countApart_8768d4_4 ++ (kd_X6_countApart_8768d4_5 ++ (kd_X6_countApart_8768d4_6))))))
set_option maxRecDepth 100000 in
theorem kt_X6_countApart_8768d4 : sf_chk [] kq_X6_countApart_8768d4 5 kc_X6_countApart_8768d4 kd_X6_countApart_8768d4 = true := by decide +kernel
set_option maxRecDepth 100000 in
theorem kl_X6_countApart_8768d4 : (kc_X6_countApart_8768d4).map (fun c => (c.1, sf_den ([] : List sf_X) c.2)) = L_X6_countApart := rfl
theorem ct_X6_countApart_8768d4 : sf_ct kq_X6_countApart_8768d4 Z_X6_countApart := by
  have h := sf_meth (K := []) (E := []) (k := kq_X6_countApart_8768d4) (nL := 5) (C := kc_X6_countApart_8768d4) (D := kd_X6_countApart_8768d4) (fun m k hk => match m, hk with
    | _ + 0, hk => (by cases hk)) kt_X6_countApart_8768d4
  rw [kl_X6_countApart_8768d4] at h
  exact h
def kq_X1_passDays_13 : sf_Q := ([(1, 1, 0), (1, 7, 0), (1, 13, 0), (0, 0, 0)], [], some (0, 0, 0), [(1, 0, 0, -400, 400, 0)], [(1, 2, 3), (13, 7, 9), (100, 0, 5), (101, 0, 5), (156, 0, 11), (158, 0, 11), (159, 0, 11), (160, 0, 7), (161, 0, 7), (162, 0, 63)])
set_option maxRecDepth 100000 in
set_option maxHeartbeats 4000000 in
theorem ct_X1_passDays_13 : sf_ct kq_X1_passDays_13 Z_X1_passDays := by
  intro t hp as H hl hj hpre
  match as, hl with
  | [v0, v1, v2, v3], _ =>
    obtain ⟨a0, rfl, ra0⟩ := bs_aR (hj 0 _ rfl)
    obtain rfl := ra0.eq H (p := 7) rfl
    obtain ⟨a1, rfl, ra1⟩ := bs_aR (hj 1 _ rfl)
    obtain ⟨a2, rfl, ra2⟩ := bs_aR (hj 2 _ rfl)
    obtain rfl := ra2.eq H (p := 20) rfl
    obtain ⟨x3, rfl⟩ := bs_aI (hj 3 _ rfl)
    have rg3 := n_range x3
    clear hpre hj
    have F0 : sf_fr [(1, 2, 3), (13, 7, 9), (100, 0, 5), (101, 0, 5), (156, 0, 11), (158, 0, 11), (159, 0, 11), (160, 0, 7), (161, 0, 7), (162, 0, 63)] t hp t hp := sf_fr_rf
    refine bs_fin (K := kq_X1_passDays_13) (L := (L_X1_passDays Z_X1_plan Z_X1_carry Z_X6_makeAndEat Z_X6_countApart)) (nL := 6) (Nat.le_of_ble_eq_true rfl) ?_
    obtain ⟨Q, hQ⟩ : ∃ Q : ab_O → Prop, Q = (fun o => ∃ t', sf_h t' o.2 ∧ sf_fr (kq_X1_passDays_13).2.2.2.2 t hp t' o.2 ∧ sf_an t' o.2.1 (kq_X1_passDays_13).2.2.1 o.1 ∧ sf_S (sf_v1 o.1 [.ref 7, .ref a1, .ref 20, .int x3] o.2) (kq_X1_passDays_13).2.2.2.1) := ⟨_, rfl⟩
    rw [← hQ]
    refine (show Ev (ab_T (L_X1_passDays Z_X1_plan Z_X1_carry Z_X6_makeAndEat Z_X6_countApart)) 0 ([some (.ref 7), some (.ref a1), some (.ref 20), some (.int x3), none, none], [], (0, 0), hp) Q from ?_)
    obtain ⟨G, hG, lG, uG⟩ := bs_fld (k := 8) H (ra1.fr F0) (by decide) rfl
    obtain ⟨M, hM, lM, uM⟩ := bs_fld (k := 9) H (ra1.fr F0) (by decide) rfl
    refine Ev.step (j := 1) (s' := ([some (.ref 7), some (.ref a1), some (.ref 20), some (.int x3), none, none], [.ref 20], (0, 0), hp)) rfl rfl ?_
    exact by
     refine bs_getI 13 rfl rfl rfl H (bs_R.uq H (g := 13) rfl) (by decide) rfl fun z1 hz1 lz1 gz1 => ?_
     refine Ev.step (j := 6) (s' := ([some (.ref 7), some (.ref a1), some (.ref 20), some (.int x3), some (.int z1), none], [], (0, 0), hp)) rfl rfl ?_
     refine bs_lit (k := 0) rfl rfl fun z2 hz2 => ?_
     refine Ev.step (j := 9) (s' := ([some (.ref 7), some (.ref a1), some (.ref 20), some (.int x3), some (.int z1), some (.int z2)], [], (0, 0), hp)) rfl rfl ?_
     refine bs_loop (ι := Int32 × ab_H × (Nat → Nat)) (fun ⟨k3, hp4, t5⟩ => ([some (.ref 7), some (.ref a1), some (.ref 20), some (.int x3), some (.int z1), some (.int k3)], [], (0, 0), hp4)) (fun ⟨k3, hp4, t5⟩ => (sf_h t5 hp4) ∧ (sf_fr [(1, 2, 3), (13, 7, 9), (100, 0, 5), (101, 0, 5), (156, 0, 11), (158, 0, 11), (159, 0, 11), (160, 0, 7), (161, 0, 7), (162, 0, 63)] t hp t5 hp4) ∧ (0 ≤ k3.toInt) ∧ (k3.toInt ≤ max 0 x3.toInt)) (fun ⟨k3, hp4, t5⟩ => (x3.toInt - k3.toInt).toNat) ?_ (z2, hp, t) ⟨H, F0, (by first | omega | assumption), (by first | omega | assumption)⟩
     rintro ⟨k3, hp4, t5⟩ ⟨Hhp4, Fhp4, i7, i8⟩ ih6
     refine (show Ev _ 9 ([some (.ref 7), some (.ref a1), some (.ref 20), some (.int x3), some (.int z1), some (.int k3)], [], (0, 0), hp4) _ from ?_)
     refine Ev.step (j := 11) (s' := ([some (.ref 7), some (.ref a1), some (.ref 20), some (.int x3), some (.int z1), some (.int k3)], [.int k3], (0, 0), hp4)) rfl rfl ?_
     exact by
      refine Ev.step (j := 12) (s' := ([some (.ref 7), some (.ref a1), some (.ref 20), some (.int x3), some (.int z1), some (.int k3)], [.int x3, .int k3], (0, 0), hp4)) rfl rfl ?_
      refine bs_ge rfl (fun c9 => ?_) (fun c9 => ?_)
      · skip
        refine Ev.step (j := 64) (s' := ([some (.ref 7), some (.ref a1), some (.ref 20), some (.int x3), some (.int z1), some (.int k3)], [.ref 20], (0, 0), hp4)) rfl rfl ?_
        refine bs_getI 13 rfl rfl rfl Hhp4 (bs_R.uq Hhp4 (g := 13) rfl) (by decide) rfl fun z10 hz10 lz10 gz10 => ?_
        refine Ev.step (j := 69) (s' := ([some (.ref 7), some (.ref a1), some (.ref 20), some (.int x3), some (.int z1), some (.int k3)], [.int z1, .int z10], (0, 0), hp4)) rfl rfl ?_
        first | (refine bs_sub rfl (by omega) (by omega) fun z11 hz11 => ?_) | (refine bs_any rfl fun z11 => ?_)
        have rz11 := n_range z11
        exact Ev.ret rfl rfl (by rw [hQ]; exact ⟨t5, Hhp4, Fhp4, bs_an0, sf_S_cons (sf_s1 (x := z11.toInt) rfl (by omega) (by omega)) (sf_S_nil)⟩)
      · skip
        refine Ev.step (j := 16) (s' := ([some (.ref 7), some (.ref a1), some (.ref 20), some (.int x3), some (.int z1), some (.int k3)], [.ref 20], (0, 0), hp4)) rfl rfl ?_
        exact by
         refine bs_getI 13 rfl rfl rfl Hhp4 (bs_R.uq Hhp4 (g := 13) rfl) (by decide) rfl fun z12 hz12 lz12 gz12 => ?_
         refine bs_lit (k := 400) rfl rfl fun z13 hz13 => ?_
         refine bs_ge rfl (fun c14 => ?_) (fun c14 => ?_)
         · skip
           refine Ev.step (j := 64) (s' := ([some (.ref 7), some (.ref a1), some (.ref 20), some (.int x3), some (.int z1), some (.int k3)], [.ref 20], (0, 0), hp4)) rfl rfl ?_
           refine bs_getI 13 rfl rfl rfl Hhp4 (bs_R.uq Hhp4 (g := 13) rfl) (by decide) rfl fun z15 hz15 lz15 gz15 => ?_
           have e16 : z15.toInt = z12.toInt := Option.some.inj (hz15.symm.trans hz12)
           refine Ev.step (j := 69) (s' := ([some (.ref 7), some (.ref a1), some (.ref 20), some (.int x3), some (.int z1), some (.int k3)], [.int z1, .int z15], (0, 0), hp4)) rfl rfl ?_
           first | (refine bs_sub rfl (by omega) (by omega) fun z17 hz17 => ?_) | (refine bs_any rfl fun z17 => ?_)
           have rz17 := n_range z17
           exact Ev.ret rfl rfl (by rw [hQ]; exact ⟨t5, Hhp4, Fhp4, bs_an0, sf_S_cons (sf_s1 (x := z17.toInt) rfl (by omega) (by omega)) (sf_S_nil)⟩)
         · skip
           refine Ev.step (j := 26) (s' := ([some (.ref 7), some (.ref a1), some (.ref 20), some (.int x3), some (.int z1), some (.int k3)], [.ref 7], (0, 0), hp4)) rfl rfl ?_
           exact by
            refine Ev.step (j := 27) (s' := ([some (.ref 7), some (.ref a1), some (.ref 20), some (.int x3), some (.int z1), some (.int k3)], [.ref a1, .ref 7], (0, 0), hp4)) rfl rfl ?_
            refine Ev.step (j := 28) (s' := ([some (.ref 7), some (.ref a1), some (.ref 20), some (.int x3), some (.int z1), some (.int k3)], [.ref 20, .ref a1, .ref 7], (0, 0), hp4)) rfl rfl ?_
            refine Ev.inl (L := (L_X1_plan Z_X6_ferryShore Z_X6_allMissed Z_X10_slotOf Z_X6_lackAt Z_X1_amountMoved)) (nL := 8) rfl (bs_rcv (g := 1) Hhp4 (bs_R.uq Hhp4 (g := 1) rfl) (by decide) rfl) rfl (Nat.le_of_ble_eq_true rfl) ?_
            generalize hQ18 : (fun (o : ab_O) => Ev _ _ _ _) = Q18
            refine (show Ev (ab_T (L_X1_plan Z_X6_ferryShore Z_X6_allMissed Z_X10_slotOf Z_X6_lackAt Z_X1_amountMoved)) 0 ([some (.ref 7), some (.ref a1), some (.ref 20), none, none, none, none, none], [], (0, 0), hp4) Q18 from ?_)
            refine Ev.step (j := 1) (s' := ([some (.ref 7), some (.ref a1), some (.ref 20), none, none, none, none, none], [.ref 20], (0, 0), hp4)) rfl rfl ?_
            refine Ev.inl (L := L_X6_ferryShore) (nL := 1) rfl (bs_rcv (g := 13) Hhp4 (bs_R.uq Hhp4 (g := 13) rfl) (by decide) rfl) rfl (Nat.le_of_ble_eq_true rfl) ?_
            generalize hQ19 : (fun (o : ab_O) => Ev _ _ _ _) = Q19
            refine (show Ev (ab_T L_X6_ferryShore) 0 ([some (.ref 20)], [], (0, 0), hp4) Q19 from ?_)
            refine Ev.step (j := 1) (s' := ([some (.ref 20)], [.ref 20], (0, 0), hp4)) rfl rfl ?_
            exact by
             refine bs_getI 13 rfl rfl rfl Hhp4 (bs_R.uq Hhp4 (g := 13) rfl) (by decide) rfl fun z20 hz20 lz20 gz20 => ?_
             have e21 : z20.toInt = z12.toInt := Option.some.inj (hz20.symm.trans hz12)
             refine bs_lit (k := 2) rfl rfl fun z22 hz22 => ?_
             refine bs_rem 2 rfl hz22 (by decide) (by omega) fun z23 hz23 => ?_
             refine Ev.ret rfl rfl ?_
             rw [← hQ19]
             refine (show Ev _ 4 ([some (.ref 7), some (.ref a1), some (.ref 20), none, none, none, none, none], [.int z23], (0, 0), hp4) _ from ?_)
             refine Ev.step (j := 5) (s' := ([some (.ref 7), some (.ref a1), some (.ref 20), some (.int z23), none, none, none, none], [], (0, 0), hp4)) rfl rfl ?_
             obtain ⟨fr, hfr⟩ : ∃ n : Nat, (n : Int) = z23.toInt := ⟨z23.toInt.toNat, by omega⟩
             refine Ev.step (j := 6) (s' := ([some (.ref 7), some (.ref a1), some (.ref 20), some (.int z23), none, none, none, none], [.ref 20], (0, 0), hp4)) rfl rfl ?_
             exact by
              refine bs_getI 13 rfl rfl rfl Hhp4 (bs_R.uq Hhp4 (g := 13) rfl) (by decide) rfl fun z24 hz24 lz24 gz24 => ?_
              have e25 : z24.toInt = z12.toInt := Option.some.inj (hz24.symm.trans hz12)
              refine bs_lit (k := 400) rfl rfl fun z26 hz26 => ?_
              refine bs_ge rfl (fun c27 => ?_) (fun c27 => ?_)
              · exfalso; omega
              · skip
                refine Ev.step (j := 16) (s' := ([some (.ref 7), some (.ref a1), some (.ref 20), some (.int z23), none, none, none, none], [.ref a1], (0, 0), hp4)) rfl rfl ?_
                refine bs_getI 7 rfl rfl rfl Hhp4 (ra1.fr Fhp4) (by decide) rfl fun z28 hz28 lz28 gz28 => ?_
                refine Ev.step (j := 23) (s' := ([some (.ref 7), some (.ref a1), some (.ref 20), some (.int z23), none, none, none, none], [.int z28], (0, 0), hp4)) rfl rfl ?_
                refine Ev.step (j := 25) (s' := ([some (.ref 7), some (.ref a1), some (.ref 20), some (.int z23), some (.int z28), none, none, none], [], (0, 0), hp4)) rfl rfl ?_
                exact by
                 refine Ev.step (j := 26) (s' := ([some (.ref 7), some (.ref a1), some (.ref 20), some (.int z23), some (.int z28), none, none, none], [.ref 7], (0, 0), hp4)) rfl rfl ?_
                 refine bs_lit (k := 0) rfl rfl fun z29 hz29 => ?_
                 refine bs_putI (W := [(1, 3, 3)]) (g := 1) rfl rfl Hhp4 (bs_R.uq Hhp4 (g := 1) rfl) (by decide) rfl rfl rfl rfl (Or.inl rfl) (by omega) (by omega) fun hp30 Hhp30 fhp30 rhp30 ehp30 qhp30 nhp30 => ?_
                 have Fhp30 := sf_fr_tr Fhp4 (sf_fr_wider (W := [(1, 2, 3), (13, 7, 9), (100, 0, 5), (101, 0, 5), (156, 0, 11), (158, 0, 11), (159, 0, 11), (160, 0, 7), (161, 0, 7), (162, 0, 63)]) rfl fhp30)
                 have h31 : sf_rd hp30 20 7 = some z12.toInt := (ehp30 _ _ (Or.inl (by decide))).trans hz12
                 have h32 : sf_rd hp30 a1 7 = some z28.toInt := (ehp30 _ _ (Or.inl (bs_nq (ra1.fr Fhp4) (bs_R.uq Hhp4 (g := 1) rfl) (by decide)))).trans hz28
                 refine Ev.step (j := 31) (s' := ([some (.ref 7), some (.ref a1), some (.ref 20), some (.int z23), some (.int z28), none, none, none], [.ref 7], (0, 0), hp30)) rfl rfl ?_
                 refine bs_lit (k := 0) rfl rfl fun z33 hz33 => ?_
                 exact by
                  refine bs_putI (W := [(1, 2, 2)]) (g := 1) rfl rfl Hhp30 (bs_R.uq Hhp30 (g := 1) rfl) (by decide) rfl rfl rfl rfl (Or.inl rfl) (by omega) (by omega) fun hp34 Hhp34 fhp34 rhp34 ehp34 qhp34 nhp34 => ?_
                  have Fhp34 := sf_fr_tr Fhp30 (sf_fr_wider (W := [(1, 2, 3), (13, 7, 9), (100, 0, 5), (101, 0, 5), (156, 0, 11), (158, 0, 11), (159, 0, 11), (160, 0, 7), (161, 0, 7), (162, 0, 63)]) rfl fhp34)
                  have h35 : sf_rd hp34 20 7 = some z12.toInt := (ehp34 _ _ (Or.inl (by decide))).trans h31
                  have h36 : sf_rd hp34 a1 7 = some z28.toInt := (ehp34 _ _ (Or.inl (bs_nq (ra1.fr Fhp30) (bs_R.uq Hhp30 (g := 1) rfl) (by decide)))).trans h32
                  have h37 : sf_rd hp34 7 3 = some z29.toInt := (ehp34 _ _ (Or.inr (by omega))).trans rhp30
                  refine Ev.step (j := 36) (s' := ([some (.ref 7), some (.ref a1), some (.ref 20), some (.int z23), some (.int z28), none, none, none], [.ref 20], (0, 0), hp34)) rfl rfl ?_
                  refine Ev.step (j := 37) (s' := ([some (.ref 7), some (.ref a1), some (.ref 20), some (.int z23), some (.int z28), none, none, none], [.ref a1, .ref 20], (0, 0), hp34)) rfl rfl ?_
                  refine bs_call (K := kq_X6_allMissed_8768d4) [.ref 20, .ref a1] [] rfl ct_X6_allMissed_8768d4 Hhp34 rfl rfl rfl (bs_rcv (g := 13) Hhp34 (bs_R.uq Hhp34 (g := 13) rfl) (by decide) rfl) rfl ?_ (sf_S_nil) fun r38 hp39 thp39 Hhp39 fhp39 ahp39 php39 => ?_
                  · intro q k h
                    match q, h with
                    | 0, h => cases h; exact bs_jR (bs_R.uq Hhp34 (g := 13) rfl)
                    | 1, h => cases h; exact bs_jR (ra1.fr Fhp34)
                    | q + 2, h => cases h
                  obtain ⟨z40, rfl⟩ := bs_anI ahp39
                  have rgz40 := n_range z40
                  have Fhp39 := sf_fr_tr Fhp34 (sf_fr_wider (W := [(1, 2, 3), (13, 7, 9), (100, 0, 5), (101, 0, 5), (156, 0, 11), (158, 0, 11), (159, 0, 11), (160, 0, 7), (161, 0, 7), (162, 0, 63)]) rfl fhp39)
                  have h41 : sf_rd hp39 20 7 = some z12.toInt := (fhp39.2.2.1 _ (bs_R.uq Hhp34 (g := 13) (p := 20) rfl).1 _ (by rw [(bs_R.uq Hhp34 (g := 13) (p := 20) rfl).2]; rfl)).trans h35
                  have h42 : sf_rd hp39 a1 7 = some z28.toInt := (fhp39.2.2.1 _ (ra1.fr Fhp34).1 _ (by rw [(ra1.fr Fhp34).2]; rfl)).trans h36
                  have h43 : sf_rd hp39 7 3 = some z29.toInt := (fhp39.2.2.1 _ (bs_R.uq Hhp34 (g := 1) (p := 7) rfl).1 _ (by rw [(bs_R.uq Hhp34 (g := 1) (p := 7) rfl).2]; rfl)).trans h37
                  have h44 : sf_rd hp39 7 2 = some z33.toInt := (fhp39.2.2.1 _ (bs_R.uq Hhp34 (g := 1) (p := 7) rfl).1 _ (by rw [(bs_R.uq Hhp34 (g := 1) (p := 7) rfl).2]; rfl)).trans rhp34
                  refine (show Ev _ 40 ([some (.ref 7), some (.ref a1), some (.ref 20), some (.int z23), some (.int z28), none, none, none], [.int z40], (0, 0), hp39) _ from ?_)
                  exact by
                   refine Ev.step (j := 42) (s' := ([some (.ref 7), some (.ref a1), some (.ref 20), some (.int z23), some (.int z28), some (.int z40), none, none], [], (0, 0), hp39)) rfl rfl ?_
                   refine bs_lit (k := 0) rfl rfl fun z45 hz45 => ?_
                   refine Ev.step (j := 45) (s' := ([some (.ref 7), some (.ref a1), some (.ref 20), some (.int z23), some (.int z28), some (.int z40), some (.int z45), none], [], (0, 0), hp39)) rfl rfl ?_
                   refine bs_loop (ι := Int32 × ab_H × (Nat → Nat)) (fun ⟨k46, hp47, t48⟩ => ([some (.ref 7), some (.ref a1), some (.ref 20), some (.int z23), some (.int z28), some (.int z40), some (.int k46), none], [], (0, 0), hp47)) (fun ⟨k46, hp47, t48⟩ => (sf_h t48 hp47) ∧ (sf_fr [(1, 2, 3), (13, 7, 9), (100, 0, 5), (101, 0, 5), (156, 0, 11), (158, 0, 11), (159, 0, 11), (160, 0, 7), (161, 0, 7), (162, 0, 63)] t hp t48 hp47) ∧ (sf_rd hp47 20 7 = some z12.toInt) ∧ (0 ≤ k46.toInt ∧ k46.toInt ≤ 8)) (fun ⟨k46, hp47, t48⟩ => (8 - k46.toInt).toNat) ?_ (z45, hp39, thp39) ⟨Hhp39, Fhp39, h41, (by first | omega | assumption)⟩
                   rintro ⟨k46, hp47, t48⟩ ⟨Hhp47, Fhp47, i50, i51⟩ ih49
                   refine (show Ev _ 45 ([some (.ref 7), some (.ref a1), some (.ref 20), some (.int z23), some (.int z28), some (.int z40), some (.int k46), none], [], (0, 0), hp47) _ from ?_)
                   refine Ev.step (j := 47) (s' := ([some (.ref 7), some (.ref a1), some (.ref 20), some (.int z23), some (.int z28), some (.int z40), some (.int k46), none], [.int k46], (0, 0), hp47)) rfl rfl ?_
                   refine Ev.step (j := 48) (s' := ([some (.ref 7), some (.ref a1), some (.ref 20), some (.int z23), some (.int z28), some (.int z40), some (.int k46), none], [.ref a1, .int k46], (0, 0), hp47)) rfl rfl ?_
                   exact by
                    refine bs_getI 7 rfl rfl rfl Hhp47 (ra1.fr Fhp47) (by decide) rfl fun z52 hz52 lz52 gz52 => ?_
                    have e53 : z52.toInt = M := Option.some.inj (hz52.symm.trans ((Fhp47.2.2.1 _ ra1.1 _ (by rw [ra1.2]; rfl)).trans hM))
                    refine bs_ge rfl (fun c54 => ?_) (fun c54 => ?_)
                    · skip
                      refine bs_lit (k := 0) rfl rfl fun z55 hz55 => ?_
                      refine Ev.step (j := 118) (s' := ([some (.ref 7), some (.ref a1), some (.ref 20), some (.int z23), some (.int z28), some (.int z40), some (.int z55), none], [], (0, 0), hp47)) rfl rfl ?_
                      refine bs_loop (ι := Int32 × (Option Value) × ab_H × (Nat → Nat)) (fun ⟨k56, o59, hp57, t58⟩ => ([some (.ref 7), some (.ref a1), some (.ref 20), some (.int z23), some (.int z28), some (.int z40), some (.int k56), o59], [], (0, 0), hp57)) (fun ⟨k56, o59, hp57, t58⟩ => (sf_h t58 hp57) ∧ (sf_fr [(1, 2, 3), (13, 7, 9), (100, 0, 5), (101, 0, 5), (156, 0, 11), (158, 0, 11), (159, 0, 11), (160, 0, 7), (161, 0, 7), (162, 0, 63)] t hp t58 hp57) ∧ (sf_rd hp57 20 7 = some z12.toInt) ∧ (0 ≤ k56.toInt ∧ k56.toInt ≤ 6) ∧ (∀ q : Nat, (q : Int) < k56.toInt → fr_ok hp57 21 fr q)) (fun ⟨k56, o59, hp57, t58⟩ => (6 - k56.toInt).toNat) ?_ (z55, none, hp47, t48) ⟨Hhp47, Fhp47, i50, (by first | omega | assumption), (by first | exact FQ | exact fun q hq => absurd hq (by omega))⟩
                      rintro ⟨k56, o59, hp57, t58⟩ ⟨Hhp57, Fhp57, i61, i62, i63⟩ ih60
                      refine (show Ev _ 118 ([some (.ref 7), some (.ref a1), some (.ref 20), some (.int z23), some (.int z28), some (.int z40), some (.int k56), o59], [], (0, 0), hp57) _ from ?_)
                      exact by
                       refine Ev.step (j := 120) (s' := ([some (.ref 7), some (.ref a1), some (.ref 20), some (.int z23), some (.int z28), some (.int z40), some (.int k56), o59], [.int k56], (0, 0), hp57)) rfl rfl ?_
                       refine Ev.step (j := 121) (s' := ([some (.ref 7), some (.ref a1), some (.ref 20), some (.int z23), some (.int z28), some (.int z40), some (.int k56), o59], [.ref a1, .int k56], (0, 0), hp57)) rfl rfl ?_
                       refine bs_getI 7 rfl rfl rfl Hhp57 (ra1.fr Fhp57) (by decide) rfl fun z64 hz64 lz64 gz64 => ?_
                       have e65 : z64.toInt = G := Option.some.inj (hz64.symm.trans ((Fhp57.2.2.1 _ ra1.1 _ (by rw [ra1.2]; rfl)).trans hG))
                       refine bs_ge rfl (fun c66 => ?_) (fun c66 => ?_)
                       · skip
                         have FR : ∀ q : Nat, (q : Int) < G → fr_ok hp57 21 fr q := fun q hq => i63 q (by omega)
                         refine Ev.ret rfl rfl ?_
                         rw [← hQ18]
                         refine (show Ev _ 31 ([some (.ref 7), some (.ref a1), some (.ref 20), some (.int x3), some (.int z1), some (.int k3)], [], (0, 0), hp57) _ from ?_)
                         exact by
                          refine Ev.step (j := 32) (s' := ([some (.ref 7), some (.ref a1), some (.ref 20), some (.int x3), some (.int z1), some (.int k3)], [.ref 7], (0, 0), hp57)) rfl rfl ?_
                          refine Ev.step (j := 33) (s' := ([some (.ref 7), some (.ref a1), some (.ref 20), some (.int x3), some (.int z1), some (.int k3)], [.ref a1, .ref 7], (0, 0), hp57)) rfl rfl ?_
                          refine Ev.step (j := 34) (s' := ([some (.ref 7), some (.ref a1), some (.ref 20), some (.int x3), some (.int z1), some (.int k3)], [.ref 20, .ref a1, .ref 7], (0, 0), hp57)) rfl rfl ?_
                          refine Ev.inl (L := (L_X1_carry Z_X6_ferryShore Z_X10_slotOf)) (nL := 5) rfl (bs_rcv (g := 1) Hhp57 (bs_R.uq Hhp57 (g := 1) rfl) (by decide) rfl) rfl (Nat.le_of_ble_eq_true rfl) ?_
                          generalize hQ67 : (fun (o : ab_O) => Ev _ _ _ _) = Q67
                          refine (show Ev (ab_T (L_X1_carry Z_X6_ferryShore Z_X10_slotOf)) 0 ([some (.ref 7), some (.ref a1), some (.ref 20), none, none], [], (0, 0), hp57) Q67 from ?_)
                          refine Ev.step (j := 1) (s' := ([some (.ref 7), some (.ref a1), some (.ref 20), none, none], [.ref 20], (0, 0), hp57)) rfl rfl ?_
                          refine Ev.inl (L := L_X6_ferryShore) (nL := 1) rfl (bs_rcv (g := 13) Hhp57 (bs_R.uq Hhp57 (g := 13) rfl) (by decide) rfl) rfl (Nat.le_of_ble_eq_true rfl) ?_
                          generalize hQ68 : (fun (o : ab_O) => Ev _ _ _ _) = Q68
                          refine (show Ev (ab_T L_X6_ferryShore) 0 ([some (.ref 20)], [], (0, 0), hp57) Q68 from ?_)
                          exact by
                           refine Ev.step (j := 1) (s' := ([some (.ref 20)], [.ref 20], (0, 0), hp57)) rfl rfl ?_
                           refine bs_getI 13 rfl rfl rfl Hhp57 (bs_R.uq Hhp57 (g := 13) rfl) (by decide) rfl fun z69 hz69 lz69 gz69 => ?_
                           have e70 : z69.toInt = z12.toInt := Option.some.inj (hz69.symm.trans i61)
                           refine bs_lit (k := 2) rfl rfl fun z71 hz71 => ?_
                           refine bs_rem 2 rfl hz71 (by decide) (by omega) fun z72 hz72 => ?_
                           refine Ev.ret rfl rfl ?_
                           rw [← hQ68]
                           refine (show Ev _ 4 ([some (.ref 7), some (.ref a1), some (.ref 20), none, none], [.int z72], (0, 0), hp57) _ from ?_)
                           refine Ev.step (j := 5) (s' := ([some (.ref 7), some (.ref a1), some (.ref 20), some (.int z72), none], [], (0, 0), hp57)) rfl rfl ?_
                           exact by
                            refine bs_lit (k := 0) rfl rfl fun z73 hz73 => ?_
                            refine Ev.step (j := 8) (s' := ([some (.ref 7), some (.ref a1), some (.ref 20), some (.int z72), some (.int z73)], [], (0, 0), hp57)) rfl rfl ?_
                            refine bs_loop (ι := Int32 × ab_H × (Nat → Nat)) (fun ⟨k74, hp75, t76⟩ => ([some (.ref 7), some (.ref a1), some (.ref 20), some (.int z72), some (.int k74)], [], (0, 0), hp75)) (fun ⟨k74, hp75, t76⟩ => (sf_h t76 hp75) ∧ (sf_fr [(1, 2, 3), (13, 7, 9), (100, 0, 5), (101, 0, 5), (156, 0, 11), (158, 0, 11), (159, 0, 11), (160, 0, 7), (161, 0, 7), (162, 0, 63)] t hp t76 hp75) ∧ (sf_rd hp75 20 7 = some z12.toInt) ∧ (0 ≤ k74.toInt ∧ k74.toInt ≤ 8) ∧ (∀ q : Nat, (q : Int) < G → fr_ok hp75 21 fr q)) (fun ⟨k74, hp75, t76⟩ => (8 - k74.toInt).toNat) ?_ (z73, hp57, t58) ⟨Hhp57, Fhp57, i61, (by first | omega | assumption), (by first | exact FR2 | exact FR)⟩
                            rintro ⟨k74, hp75, t76⟩ ⟨Hhp75, Fhp75, i78, i79, i80⟩ ih77
                            refine (show Ev _ 8 ([some (.ref 7), some (.ref a1), some (.ref 20), some (.int z72), some (.int k74)], [], (0, 0), hp75) _ from ?_)
                            refine Ev.step (j := 10) (s' := ([some (.ref 7), some (.ref a1), some (.ref 20), some (.int z72), some (.int k74)], [.int k74], (0, 0), hp75)) rfl rfl ?_
                            refine Ev.step (j := 11) (s' := ([some (.ref 7), some (.ref a1), some (.ref 20), some (.int z72), some (.int k74)], [.ref a1, .int k74], (0, 0), hp75)) rfl rfl ?_
                            refine bs_getI 7 rfl rfl rfl Hhp75 (ra1.fr Fhp75) (by decide) rfl fun z81 hz81 lz81 gz81 => ?_
                            have e82 : z81.toInt = M := Option.some.inj (hz81.symm.trans ((Fhp75.2.2.1 _ ra1.1 _ (by rw [ra1.2]; rfl)).trans hM))
                            refine bs_ge rfl (fun c83 => ?_) (fun c83 => ?_)
                            · skip
                              refine bs_lit (k := 0) rfl rfl fun z84 hz84 => ?_
                              exact by
                               refine Ev.step (j := 59) (s' := ([some (.ref 7), some (.ref a1), some (.ref 20), some (.int z72), some (.int z84)], [], (0, 0), hp75)) rfl rfl ?_
                               refine bs_loop (ι := Int32 × ab_H × (Nat → Nat)) (fun ⟨k85, hp86, t87⟩ => ([some (.ref 7), some (.ref a1), some (.ref 20), some (.int z72), some (.int k85)], [], (0, 0), hp86)) (fun ⟨k85, hp86, t87⟩ => (sf_h t87 hp86) ∧ (sf_fr [(1, 2, 3), (13, 7, 9), (100, 0, 5), (101, 0, 5), (156, 0, 11), (158, 0, 11), (159, 0, 11), (160, 0, 7), (161, 0, 7), (162, 0, 63)] t hp t87 hp86) ∧ (sf_rd hp86 20 7 = some z12.toInt) ∧ (0 ≤ k85.toInt ∧ k85.toInt ≤ 6) ∧ (∀ q : Nat, k85.toInt ≤ (q : Int) → (q : Int) < G → fr_ok hp86 21 fr q)) (fun ⟨k85, hp86, t87⟩ => (6 - k85.toInt).toNat) ?_ (z84, hp75, t76) ⟨Hhp75, Fhp75, i78, (by first | omega | assumption), (by first | exact FR3 | exact fun q _ hq => i80 q hq)⟩
                               rintro ⟨k85, hp86, t87⟩ ⟨Hhp86, Fhp86, i89, i90, i91⟩ ih88
                               refine (show Ev _ 59 ([some (.ref 7), some (.ref a1), some (.ref 20), some (.int z72), some (.int k85)], [], (0, 0), hp86) _ from ?_)
                               refine Ev.step (j := 61) (s' := ([some (.ref 7), some (.ref a1), some (.ref 20), some (.int z72), some (.int k85)], [.int k85], (0, 0), hp86)) rfl rfl ?_
                               refine Ev.step (j := 62) (s' := ([some (.ref 7), some (.ref a1), some (.ref 20), some (.int z72), some (.int k85)], [.ref a1, .int k85], (0, 0), hp86)) rfl rfl ?_
                               refine bs_getI 7 rfl rfl rfl Hhp86 (ra1.fr Fhp86) (by decide) rfl fun z92 hz92 lz92 gz92 => ?_
                               have e93 : z92.toInt = G := Option.some.inj (hz92.symm.trans ((Fhp86.2.2.1 _ ra1.1 _ (by rw [ra1.2]; rfl)).trans hG))
                               refine bs_ge rfl (fun c94 => ?_) (fun c94 => ?_)
                               · skip
                                 refine Ev.step (j := 142) (s' := ([some (.ref 7), some (.ref a1), some (.ref 20), some (.int z72), some (.int k85)], [.ref 20], (0, 0), hp86)) rfl rfl ?_
                                 exact by
                                  refine Ev.step (j := 143) (s' := ([some (.ref 7), some (.ref a1), some (.ref 20), some (.int z72), some (.int k85)], [.ref 20, .ref 20], (0, 0), hp86)) rfl rfl ?_
                                  refine bs_getI 13 rfl rfl rfl Hhp86 (bs_R.uq Hhp86 (g := 13) rfl) (by decide) rfl fun z95 hz95 lz95 gz95 => ?_
                                  refine Ev.step (j := 147) (s' := ([some (.ref 7), some (.ref a1), some (.ref 20), some (.int z72), some (.int k85)], [.ref 7, .int z95, .ref 20], (0, 0), hp86)) rfl rfl ?_
                                  refine bs_getI 1 rfl rfl rfl Hhp86 (bs_R.uq Hhp86 (g := 1) rfl) (by decide) rfl fun z96 hz96 lz96 gz96 => ?_
                                  first | (refine bs_add rfl (by omega) (by omega) fun z97 hz97 => ?_) | (refine bs_any rfl fun z97 => ?_)
                                  have rz97 := n_range z97
                                  refine bs_putI (W := [(13, 9, 9)]) (g := 13) rfl rfl Hhp86 (bs_R.uq Hhp86 (g := 13) rfl) (by decide) rfl rfl rfl rfl (Or.inl rfl) (by omega) (by omega) fun hp98 Hhp98 fhp98 rhp98 ehp98 qhp98 nhp98 => ?_
                                  have Fhp98 := sf_fr_tr Fhp86 (sf_fr_wider (W := [(1, 2, 3), (13, 7, 9), (100, 0, 5), (101, 0, 5), (156, 0, 11), (158, 0, 11), (159, 0, 11), (160, 0, 7), (161, 0, 7), (162, 0, 63)]) rfl fhp98)
                                  have h99 : sf_rd hp98 20 7 = some z12.toInt := (ehp98 _ _ (Or.inr (by omega))).trans i89
                                  have h100 : sf_rd hp98 a1 8 = some z92.toInt := (ehp98 _ _ (Or.inl (bs_nq (ra1.fr Fhp86) (bs_R.uq Hhp86 (g := 13) rfl) (by decide)))).trans hz92
                                  have h101 : sf_rd hp98 7 3 = some z96.toInt := (ehp98 _ _ (Or.inl (by decide))).trans hz96
                                  refine Ev.step (j := 155) (s' := ([some (.ref 7), some (.ref a1), some (.ref 20), some (.int z72), some (.int k85)], [.ref 7], (0, 0), hp98)) rfl rfl ?_
                                  exact by
                                   refine bs_getI 1 rfl rfl rfl Hhp98 (bs_R.uq Hhp98 (g := 1) rfl) (by decide) rfl fun z102 hz102 lz102 gz102 => ?_
                                   have e103 : z102.toInt = z96.toInt := Option.some.inj (hz102.symm.trans h101)
                                   refine bs_ifne rfl (fun c104 => ?_) (fun c104 => ?_)
                                   · skip
                                     refine Ev.ret rfl rfl ?_
                                     rw [← hQ67]
                                     refine (show Ev _ 37 ([some (.ref 7), some (.ref a1), some (.ref 20), some (.int x3), some (.int z1), some (.int k3)], [], (0, 0), hp98) _ from ?_)
                                     refine Ev.step (j := 38) (s' := ([some (.ref 7), some (.ref a1), some (.ref 20), some (.int x3), some (.int z1), some (.int k3)], [.ref 20], (0, 0), hp98)) rfl rfl ?_
                                     refine Ev.step (j := 39) (s' := ([some (.ref 7), some (.ref a1), some (.ref 20), some (.int x3), some (.int z1), some (.int k3)], [.ref a1, .ref 20], (0, 0), hp98)) rfl rfl ?_
                                     refine bs_call (K := kq_X6_makeAndEat_8768d4) [.ref 20, .ref a1] [] rfl ct_X6_makeAndEat_8768d4 Hhp98 rfl rfl rfl (bs_rcv (g := 13) Hhp98 (bs_R.uq Hhp98 (g := 13) rfl) (by decide) rfl) rfl ?_ (sf_S_nil) fun r105 hp106 thp106 Hhp106 fhp106 ahp106 php106 => ?_
                                     · intro q k h
                                       match q, h with
                                       | 0, h => cases h; exact bs_jR (bs_R.uq Hhp98 (g := 13) rfl)
                                       | 1, h => cases h; exact bs_jR (ra1.fr Fhp98)
                                       | q + 2, h => cases h
                                     obtain rfl := ahp106.1 rfl
                                     have Fhp106 := sf_fr_tr Fhp98 (sf_fr_wider (W := [(1, 2, 3), (13, 7, 9), (100, 0, 5), (101, 0, 5), (156, 0, 11), (158, 0, 11), (159, 0, 11), (160, 0, 7), (161, 0, 7), (162, 0, 63)]) rfl fhp106)
                                     have h107 : sf_rd hp106 20 7 = some z12.toInt := (fhp106.2.2.1 _ (bs_R.uq Hhp98 (g := 13) (p := 20) rfl).1 _ (by rw [(bs_R.uq Hhp98 (g := 13) (p := 20) rfl).2]; rfl)).trans h99
                                     have h108 : sf_rd hp106 a1 8 = some z92.toInt := (fhp106.2.2.1 _ (ra1.fr Fhp98).1 _ (by rw [(ra1.fr Fhp98).2]; rfl)).trans h100
                                     have h109 : sf_rd hp106 7 3 = some z96.toInt := (fhp106.2.2.1 _ (bs_R.uq Hhp98 (g := 1) (p := 7) rfl).1 _ (by rw [(bs_R.uq Hhp98 (g := 1) (p := 7) rfl).2]; rfl)).trans h101
                                     have h110 : sf_rd hp106 20 9 = some z97.toInt := (fhp106.2.2.1 _ (bs_R.uq Hhp98 (g := 13) (p := 20) rfl).1 _ (by rw [(bs_R.uq Hhp98 (g := 13) (p := 20) rfl).2]; rfl)).trans rhp98
                                     refine (show Ev _ 42 ([some (.ref 7), some (.ref a1), some (.ref 20), some (.int x3), some (.int z1), some (.int k3)], [], (0, 0), hp106) _ from ?_)
                                     exact by
                                      refine Ev.step (j := 43) (s' := ([some (.ref 7), some (.ref a1), some (.ref 20), some (.int x3), some (.int z1), some (.int k3)], [.ref 20], (0, 0), hp106)) rfl rfl ?_
                                      refine Ev.step (j := 44) (s' := ([some (.ref 7), some (.ref a1), some (.ref 20), some (.int x3), some (.int z1), some (.int k3)], [.ref a1, .ref 20], (0, 0), hp106)) rfl rfl ?_
                                      refine bs_call (K := kq_X6_countApart_8768d4) [.ref 20, .ref a1] [] rfl ct_X6_countApart_8768d4 Hhp106 rfl rfl rfl (bs_rcv (g := 13) Hhp106 (bs_R.uq Hhp106 (g := 13) rfl) (by decide) rfl) rfl ?_ (sf_S_nil) fun r111 hp112 thp112 Hhp112 fhp112 ahp112 php112 => ?_
                                      · intro q k h
                                        match q, h with
                                        | 0, h => cases h; exact bs_jR (bs_R.uq Hhp106 (g := 13) rfl)
                                        | 1, h => cases h; exact bs_jR (ra1.fr Fhp106)
                                        | q + 2, h => cases h
                                      obtain rfl := ahp112.1 rfl
                                      have Fhp112 := sf_fr_tr Fhp106 (sf_fr_wider (W := [(1, 2, 3), (13, 7, 9), (100, 0, 5), (101, 0, 5), (156, 0, 11), (158, 0, 11), (159, 0, 11), (160, 0, 7), (161, 0, 7), (162, 0, 63)]) rfl fhp112)
                                      have h113 : sf_rd hp112 20 7 = some z12.toInt := (fhp112.2.2.1 _ (bs_R.uq Hhp106 (g := 13) (p := 20) rfl).1 _ (by rw [(bs_R.uq Hhp106 (g := 13) (p := 20) rfl).2]; rfl)).trans h107
                                      have h114 : sf_rd hp112 a1 8 = some z92.toInt := (fhp112.2.2.1 _ (ra1.fr Fhp106).1 _ (by rw [(ra1.fr Fhp106).2]; rfl)).trans h108
                                      have h115 : sf_rd hp112 7 3 = some z96.toInt := (fhp112.2.2.1 _ (bs_R.uq Hhp106 (g := 1) (p := 7) rfl).1 _ (by rw [(bs_R.uq Hhp106 (g := 1) (p := 7) rfl).2]; rfl)).trans h109
                                      have h116 : sf_rd hp112 20 9 = some z97.toInt := (fhp112.2.2.1 _ (bs_R.uq Hhp106 (g := 13) (p := 20) rfl).1 _ (by rw [(bs_R.uq Hhp106 (g := 13) (p := 20) rfl).2]; rfl)).trans h110
                                      refine (show Ev _ 47 ([some (.ref 7), some (.ref a1), some (.ref 20), some (.int x3), some (.int z1), some (.int k3)], [], (0, 0), hp112) _ from ?_)
                                      exact by
                                       refine Ev.step (j := 48) (s' := ([some (.ref 7), some (.ref a1), some (.ref 20), some (.int x3), some (.int z1), some (.int k3)], [.ref 20], (0, 0), hp112)) rfl rfl ?_
                                       refine Ev.step (j := 49) (s' := ([some (.ref 7), some (.ref a1), some (.ref 20), some (.int x3), some (.int z1), some (.int k3)], [.ref 20, .ref 20], (0, 0), hp112)) rfl rfl ?_
                                       refine bs_getI 13 rfl rfl rfl Hhp112 (bs_R.uq Hhp112 (g := 13) rfl) (by decide) rfl fun z117 hz117 lz117 gz117 => ?_
                                       have e118 : z117.toInt = z12.toInt := Option.some.inj (hz117.symm.trans h113)
                                       refine bs_lit (k := 1) rfl rfl fun z119 hz119 => ?_
                                       first | (refine bs_add rfl (by omega) (by omega) fun z120 hz120 => ?_) | (refine bs_any rfl fun z120 => ?_)
                                       have rz120 := n_range z120
                                       refine bs_putI (W := [(13, 7, 7)]) (g := 13) rfl rfl Hhp112 (bs_R.uq Hhp112 (g := 13) rfl) (by decide) rfl rfl rfl rfl (Or.inl rfl) (by omega) (by omega) fun hp121 Hhp121 fhp121 rhp121 ehp121 qhp121 nhp121 => ?_
                                       have Fhp121 := sf_fr_tr Fhp112 (sf_fr_wider (W := [(1, 2, 3), (13, 7, 9), (100, 0, 5), (101, 0, 5), (156, 0, 11), (158, 0, 11), (159, 0, 11), (160, 0, 7), (161, 0, 7), (162, 0, 63)]) rfl fhp121)
                                       have h122 : sf_rd hp121 a1 8 = some z92.toInt := (ehp121 _ _ (Or.inl (bs_nq (ra1.fr Fhp112) (bs_R.uq Hhp112 (g := 13) rfl) (by decide)))).trans h114
                                       have h123 : sf_rd hp121 7 3 = some z96.toInt := (ehp121 _ _ (Or.inl (by decide))).trans h115
                                       have h124 : sf_rd hp121 20 9 = some z97.toInt := (ehp121 _ _ (Or.inr (by omega))).trans h116
                                       refine bs_iinc (1) rfl rfl rfl rfl (by omega) (by omega) fun z125 hz125 => ?_
                                       exact by
                                        refine (show Ev _ 60 ([some (.ref 7), some (.ref a1), some (.ref 20), some (.int x3), some (.int z1), some (.int z125)], [], (0, 0), hp121) _ from ?_)
                                        refine Ev.step (j := 9) (s' := ([some (.ref 7), some (.ref a1), some (.ref 20), some (.int x3), some (.int z1), some (.int z125)], [], (0, 0), hp121)) rfl rfl ?_
                                        refine ih6 (z125, hp121, thp112) ⟨Hhp121, Fhp121, (by first | omega | assumption), (by first | omega | assumption)⟩ ?_
                                        show (x3.toInt - z125.toInt).toNat < (x3.toInt - k3.toInt).toNat
                                        omega
                                   · skip
                                     have c126 : z102.toInt = 0 := by omega
                                     refine Ev.step (j := 162) (s' := ([some (.ref 7), some (.ref a1), some (.ref 20), some (.int z72), some (.int k85)], [.ref 20], (0, 0), hp98)) rfl rfl ?_
                                     exact by
                                      refine Ev.step (j := 163) (s' := ([some (.ref 7), some (.ref a1), some (.ref 20), some (.int z72), some (.int k85)], [.ref 20, .ref 20], (0, 0), hp98)) rfl rfl ?_
                                      refine bs_getI 13 rfl rfl rfl Hhp98 (bs_R.uq Hhp98 (g := 13) rfl) (by decide) rfl fun z127 hz127 lz127 gz127 => ?_
                                      refine bs_lit (k := 1) rfl rfl fun z128 hz128 => ?_
                                      first | (refine bs_add rfl (by omega) (by omega) fun z129 hz129 => ?_) | (refine bs_any rfl fun z129 => ?_)
                                      have rz129 := n_range z129
                                      refine bs_putI (W := [(13, 8, 8)]) (g := 13) rfl rfl Hhp98 (bs_R.uq Hhp98 (g := 13) rfl) (by decide) rfl rfl rfl rfl (Or.inl rfl) (by omega) (by omega) fun hp130 Hhp130 fhp130 rhp130 ehp130 qhp130 nhp130 => ?_
                                      have Fhp130 := sf_fr_tr Fhp98 (sf_fr_wider (W := [(1, 2, 3), (13, 7, 9), (100, 0, 5), (101, 0, 5), (156, 0, 11), (158, 0, 11), (159, 0, 11), (160, 0, 7), (161, 0, 7), (162, 0, 63)]) rfl fhp130)
                                      have h131 : sf_rd hp130 20 7 = some z12.toInt := (ehp130 _ _ (Or.inr (by omega))).trans h99
                                      have h132 : sf_rd hp130 a1 8 = some z92.toInt := (ehp130 _ _ (Or.inl (bs_nq (ra1.fr Fhp98) (bs_R.uq Hhp98 (g := 13) rfl) (by decide)))).trans h100
                                      have h133 : sf_rd hp130 7 3 = some z96.toInt := (ehp130 _ _ (Or.inl (by decide))).trans h101
                                      have h134 : sf_rd hp130 20 9 = some z97.toInt := (ehp130 _ _ (Or.inr (by omega))).trans rhp98
                                      refine Ev.ret rfl rfl ?_
                                      rw [← hQ67]
                                      refine (show Ev _ 37 ([some (.ref 7), some (.ref a1), some (.ref 20), some (.int x3), some (.int z1), some (.int k3)], [], (0, 0), hp130) _ from ?_)
                                      exact by
                                       refine Ev.step (j := 38) (s' := ([some (.ref 7), some (.ref a1), some (.ref 20), some (.int x3), some (.int z1), some (.int k3)], [.ref 20], (0, 0), hp130)) rfl rfl ?_
                                       refine Ev.step (j := 39) (s' := ([some (.ref 7), some (.ref a1), some (.ref 20), some (.int x3), some (.int z1), some (.int k3)], [.ref a1, .ref 20], (0, 0), hp130)) rfl rfl ?_
                                       refine bs_call (K := kq_X6_makeAndEat_8768d4) [.ref 20, .ref a1] [] rfl ct_X6_makeAndEat_8768d4 Hhp130 rfl rfl rfl (bs_rcv (g := 13) Hhp130 (bs_R.uq Hhp130 (g := 13) rfl) (by decide) rfl) rfl ?_ (sf_S_nil) fun r135 hp136 thp136 Hhp136 fhp136 ahp136 php136 => ?_
                                       · intro q k h
                                         match q, h with
                                         | 0, h => cases h; exact bs_jR (bs_R.uq Hhp130 (g := 13) rfl)
                                         | 1, h => cases h; exact bs_jR (ra1.fr Fhp130)
                                         | q + 2, h => cases h
                                       obtain rfl := ahp136.1 rfl
                                       have Fhp136 := sf_fr_tr Fhp130 (sf_fr_wider (W := [(1, 2, 3), (13, 7, 9), (100, 0, 5), (101, 0, 5), (156, 0, 11), (158, 0, 11), (159, 0, 11), (160, 0, 7), (161, 0, 7), (162, 0, 63)]) rfl fhp136)
                                       have h137 : sf_rd hp136 20 7 = some z12.toInt := (fhp136.2.2.1 _ (bs_R.uq Hhp130 (g := 13) (p := 20) rfl).1 _ (by rw [(bs_R.uq Hhp130 (g := 13) (p := 20) rfl).2]; rfl)).trans h131
                                       have h138 : sf_rd hp136 a1 8 = some z92.toInt := (fhp136.2.2.1 _ (ra1.fr Fhp130).1 _ (by rw [(ra1.fr Fhp130).2]; rfl)).trans h132
                                       have h139 : sf_rd hp136 7 3 = some z96.toInt := (fhp136.2.2.1 _ (bs_R.uq Hhp130 (g := 1) (p := 7) rfl).1 _ (by rw [(bs_R.uq Hhp130 (g := 1) (p := 7) rfl).2]; rfl)).trans h133
                                       have h140 : sf_rd hp136 20 9 = some z97.toInt := (fhp136.2.2.1 _ (bs_R.uq Hhp130 (g := 13) (p := 20) rfl).1 _ (by rw [(bs_R.uq Hhp130 (g := 13) (p := 20) rfl).2]; rfl)).trans h134
                                       have h141 : sf_rd hp136 20 8 = some z129.toInt := (fhp136.2.2.1 _ (bs_R.uq Hhp130 (g := 13) (p := 20) rfl).1 _ (by rw [(bs_R.uq Hhp130 (g := 13) (p := 20) rfl).2]; rfl)).trans rhp130
                                       refine (show Ev _ 42 ([some (.ref 7), some (.ref a1), some (.ref 20), some (.int x3), some (.int z1), some (.int k3)], [], (0, 0), hp136) _ from ?_)
                                       exact by
                                        refine Ev.step (j := 43) (s' := ([some (.ref 7), some (.ref a1), some (.ref 20), some (.int x3), some (.int z1), some (.int k3)], [.ref 20], (0, 0), hp136)) rfl rfl ?_
                                        refine Ev.step (j := 44) (s' := ([some (.ref 7), some (.ref a1), some (.ref 20), some (.int x3), some (.int z1), some (.int k3)], [.ref a1, .ref 20], (0, 0), hp136)) rfl rfl ?_
                                        refine bs_call (K := kq_X6_countApart_8768d4) [.ref 20, .ref a1] [] rfl ct_X6_countApart_8768d4 Hhp136 rfl rfl rfl (bs_rcv (g := 13) Hhp136 (bs_R.uq Hhp136 (g := 13) rfl) (by decide) rfl) rfl ?_ (sf_S_nil) fun r142 hp143 thp143 Hhp143 fhp143 ahp143 php143 => ?_
                                        · intro q k h
                                          match q, h with
                                          | 0, h => cases h; exact bs_jR (bs_R.uq Hhp136 (g := 13) rfl)
                                          | 1, h => cases h; exact bs_jR (ra1.fr Fhp136)
                                          | q + 2, h => cases h
                                        obtain rfl := ahp143.1 rfl
                                        have Fhp143 := sf_fr_tr Fhp136 (sf_fr_wider (W := [(1, 2, 3), (13, 7, 9), (100, 0, 5), (101, 0, 5), (156, 0, 11), (158, 0, 11), (159, 0, 11), (160, 0, 7), (161, 0, 7), (162, 0, 63)]) rfl fhp143)
                                        have h144 : sf_rd hp143 20 7 = some z12.toInt := (fhp143.2.2.1 _ (bs_R.uq Hhp136 (g := 13) (p := 20) rfl).1 _ (by rw [(bs_R.uq Hhp136 (g := 13) (p := 20) rfl).2]; rfl)).trans h137
                                        have h145 : sf_rd hp143 a1 8 = some z92.toInt := (fhp143.2.2.1 _ (ra1.fr Fhp136).1 _ (by rw [(ra1.fr Fhp136).2]; rfl)).trans h138
                                        have h146 : sf_rd hp143 7 3 = some z96.toInt := (fhp143.2.2.1 _ (bs_R.uq Hhp136 (g := 1) (p := 7) rfl).1 _ (by rw [(bs_R.uq Hhp136 (g := 1) (p := 7) rfl).2]; rfl)).trans h139
                                        have h147 : sf_rd hp143 20 9 = some z97.toInt := (fhp143.2.2.1 _ (bs_R.uq Hhp136 (g := 13) (p := 20) rfl).1 _ (by rw [(bs_R.uq Hhp136 (g := 13) (p := 20) rfl).2]; rfl)).trans h140
                                        have h148 : sf_rd hp143 20 8 = some z129.toInt := (fhp143.2.2.1 _ (bs_R.uq Hhp136 (g := 13) (p := 20) rfl).1 _ (by rw [(bs_R.uq Hhp136 (g := 13) (p := 20) rfl).2]; rfl)).trans h141
                                        refine (show Ev _ 47 ([some (.ref 7), some (.ref a1), some (.ref 20), some (.int x3), some (.int z1), some (.int k3)], [], (0, 0), hp143) _ from ?_)
                                        exact by
                                         refine Ev.step (j := 48) (s' := ([some (.ref 7), some (.ref a1), some (.ref 20), some (.int x3), some (.int z1), some (.int k3)], [.ref 20], (0, 0), hp143)) rfl rfl ?_
                                         refine Ev.step (j := 49) (s' := ([some (.ref 7), some (.ref a1), some (.ref 20), some (.int x3), some (.int z1), some (.int k3)], [.ref 20, .ref 20], (0, 0), hp143)) rfl rfl ?_
                                         refine bs_getI 13 rfl rfl rfl Hhp143 (bs_R.uq Hhp143 (g := 13) rfl) (by decide) rfl fun z149 hz149 lz149 gz149 => ?_
                                         have e150 : z149.toInt = z12.toInt := Option.some.inj (hz149.symm.trans h144)
                                         refine bs_lit (k := 1) rfl rfl fun z151 hz151 => ?_
                                         first | (refine bs_add rfl (by omega) (by omega) fun z152 hz152 => ?_) | (refine bs_any rfl fun z152 => ?_)
                                         have rz152 := n_range z152
                                         refine bs_putI (W := [(13, 7, 7)]) (g := 13) rfl rfl Hhp143 (bs_R.uq Hhp143 (g := 13) rfl) (by decide) rfl rfl rfl rfl (Or.inl rfl) (by omega) (by omega) fun hp153 Hhp153 fhp153 rhp153 ehp153 qhp153 nhp153 => ?_
                                         have Fhp153 := sf_fr_tr Fhp143 (sf_fr_wider (W := [(1, 2, 3), (13, 7, 9), (100, 0, 5), (101, 0, 5), (156, 0, 11), (158, 0, 11), (159, 0, 11), (160, 0, 7), (161, 0, 7), (162, 0, 63)]) rfl fhp153)
                                         have h154 : sf_rd hp153 a1 8 = some z92.toInt := (ehp153 _ _ (Or.inl (bs_nq (ra1.fr Fhp143) (bs_R.uq Hhp143 (g := 13) rfl) (by decide)))).trans h145
                                         have h155 : sf_rd hp153 7 3 = some z96.toInt := (ehp153 _ _ (Or.inl (by decide))).trans h146
                                         have h156 : sf_rd hp153 20 9 = some z97.toInt := (ehp153 _ _ (Or.inr (by omega))).trans h147
                                         have h157 : sf_rd hp153 20 8 = some z129.toInt := (ehp153 _ _ (Or.inr (by omega))).trans h148
                                         refine bs_iinc (1) rfl rfl rfl rfl (by omega) (by omega) fun z158 hz158 => ?_
                                         exact by
                                          refine (show Ev _ 60 ([some (.ref 7), some (.ref a1), some (.ref 20), some (.int x3), some (.int z1), some (.int z158)], [], (0, 0), hp153) _ from ?_)
                                          refine Ev.step (j := 9) (s' := ([some (.ref 7), some (.ref a1), some (.ref 20), some (.int x3), some (.int z1), some (.int z158)], [], (0, 0), hp153)) rfl rfl ?_
                                          refine ih6 (z158, hp153, thp143) ⟨Hhp153, Fhp153, (by first | omega | assumption), (by first | omega | assumption)⟩ ?_
                                          show (x3.toInt - z158.toInt).toNat < (x3.toInt - k3.toInt).toNat
                                          omega
                               · skip
                                 obtain ⟨fv, xv, yv, hfv, hxv, hyv, f0, f1, f2⟩ := i91 k85.toInt.toNat (by omega) (by omega)
                                 refine Ev.step (j := 69) (s' := ([some (.ref 7), some (.ref a1), some (.ref 20), some (.int z72), some (.int k85)], [.ref 20], (0, 0), hp86)) rfl rfl ?_
                                 exact by
                                  refine bs_getU (g := 13) (g1 := 156) rfl rfl Hhp86 (bs_R.uq Hhp86 (g := 13) rfl) (by decide) rfl rfl ?_
                                  refine Ev.step (j := 74) (s' := ([some (.ref 7), some (.ref a1), some (.ref 20), some (.int z72), some (.int k85)], [.int k85, .ref 21], (0, 0), hp86)) rfl rfl ?_
                                  refine Ev.step (j := 75) (s' := ([some (.ref 7), some (.ref a1), some (.ref 20), some (.int z72), some (.int k85)], [.int z72, .int k85, .ref 21], (0, 0), hp86)) rfl rfl ?_
                                  refine Ev.inlS (L := L_X10_slotOf) (nL := 2) rfl rfl (Nat.le_of_ble_eq_true rfl) ?_
                                  generalize hQ159 : (fun (o : ab_O) => Ev _ _ _ _) = Q159
                                  refine (show Ev (ab_T L_X10_slotOf) 0 ([some (.int k85), some (.int z72)], [], (0, 0), hp86) Q159 from ?_)
                                  refine bs_lit (k := 2) rfl rfl fun z160 hz160 => ?_
                                  refine Ev.step (j := 2) (s' := ([some (.int k85), some (.int z72)], [.int k85, .int z160], (0, 0), hp86)) rfl rfl ?_
                                  refine bs_mul (2) rfl (Or.inl hz160) (by rw [hz160]; omega) (by rw [hz160]; omega) fun z161 hz161 => ?_
                                  rw [hz160] at hz161
                                  refine Ev.step (j := 4) (s' := ([some (.int k85), some (.int z72)], [.int z72, .int z161], (0, 0), hp86)) rfl rfl ?_
                                  first | (refine bs_add rfl (by omega) (by omega) fun z162 hz162 => ?_) | (refine bs_any rfl fun z162 => ?_)
                                  have rz162 := n_range z162
                                  refine Ev.ret rfl rfl ?_
                                  rw [← hQ159]
                                  refine (show Ev _ 78 ([some (.ref 7), some (.ref a1), some (.ref 20), some (.int z72), some (.int k85)], [.int z162, .ref 21], (0, 0), hp86) _ from ?_)
                                  exact by
                                   refine Ev.step (j := 79) (s' := ([some (.ref 7), some (.ref a1), some (.ref 20), some (.int z72), some (.int k85)], [.int z162, .ref 21, .int z162, .ref 21], (0, 0), hp86)) rfl rfl ?_
                                   refine bs_ld (g := 156) 0 11 (0, 999) rfl Hhp86 (bs_R.uq Hhp86 (g := 156) rfl) (by decide) rfl (by decide) (by decide) rfl (by decide) (by omega) (by omega) fun z163 hz163 lz163 gz163 => ?_
                                   dsimp only at lz163 gz163
                                   have exv : z163.toInt = xv := Option.some.inj ((bs_at hz163 (show _ = 2 * k85.toInt.toNat + fr by omega)).symm.trans hxv)
                                   refine Ev.step (j := 81) (s' := ([some (.ref 7), some (.ref a1), some (.ref 20), some (.int z72), some (.int k85)], [.ref 7, .int z163, .int z162, .ref 21], (0, 0), hp86)) rfl rfl ?_
                                   refine bs_getU (g := 1) (g1 := 100) rfl rfl Hhp86 (bs_R.uq Hhp86 (g := 1) rfl) (by decide) rfl rfl ?_
                                   refine Ev.step (j := 86) (s' := ([some (.ref 7), some (.ref a1), some (.ref 20), some (.int z72), some (.int k85)], [.int k85, .ref 8, .int z163, .int z162, .ref 21], (0, 0), hp86)) rfl rfl ?_
                                   refine bs_ld (g := 100) 0 5 (-2147483648, 2147483647) rfl Hhp86 (bs_R.uq Hhp86 (g := 100) rfl) (by decide) rfl (by decide) (by decide) rfl (by decide) (by omega) (by omega) fun z164 hz164 lz164 gz164 => ?_
                                   dsimp only at lz164 gz164
                                   have e165 : z164.toInt = fv := Option.some.inj (hz164.symm.trans hfv)
                                   first | (refine bs_sub rfl (by omega) (by omega) fun z166 hz166 => ?_) | (refine bs_any rfl fun z166 => ?_)
                                   have rz166 := n_range z166
                                   refine bs_st (W := [(156, 0, 11)]) (g := 156) 0 11 (0, 999) rfl Hhp86 (bs_R.uq Hhp86 (g := 156) rfl) (by decide) rfl rfl (by decide) rfl rfl (by omega) (by omega) (by dsimp only; omega) (by dsimp only; omega) fun hp167 Hhp167 fhp167 rhp167 ehp167 qhp167 nhp167 => ?_
                                   have Fhp167 := sf_fr_tr Fhp86 (sf_fr_wider (W := [(1, 2, 3), (13, 7, 9), (100, 0, 5), (101, 0, 5), (156, 0, 11), (158, 0, 11), (159, 0, 11), (160, 0, 7), (161, 0, 7), (162, 0, 63)]) rfl fhp167)
                                   have h168 : sf_rd hp167 20 7 = some z12.toInt := (ehp167 _ _ (Or.inl (by decide))).trans i89
                                   have h169 : sf_rd hp167 a1 8 = some z92.toInt := (ehp167 _ _ (Or.inl (bs_nq (ra1.fr Fhp86) (bs_R.uq Hhp86 (g := 156) rfl) (by decide)))).trans hz92
                                   have h170 : sf_rd hp167 8 k85.toInt.toNat = some fv := (ehp167 _ _ (Or.inl (by decide))).trans hfv
                                   refine Ev.step (j := 90) (s' := ([some (.ref 7), some (.ref a1), some (.ref 20), some (.int z72), some (.int k85)], [.ref 20], (0, 0), hp167)) rfl rfl ?_
                                   exact by
                                    refine bs_getU (g := 13) (g1 := 156) rfl rfl Hhp167 (bs_R.uq Hhp167 (g := 13) rfl) (by decide) rfl rfl ?_
                                    refine Ev.step (j := 95) (s' := ([some (.ref 7), some (.ref a1), some (.ref 20), some (.int z72), some (.int k85)], [.int k85, .ref 21], (0, 0), hp167)) rfl rfl ?_
                                    refine bs_lit (k := 1) rfl rfl fun z171 hz171 => ?_
                                    refine Ev.step (j := 97) (s' := ([some (.ref 7), some (.ref a1), some (.ref 20), some (.int z72), some (.int k85)], [.int z72, .int z171, .int k85, .ref 21], (0, 0), hp167)) rfl rfl ?_
                                    first | (refine bs_sub rfl (by omega) (by omega) fun z172 hz172 => ?_) | (refine bs_any rfl fun z172 => ?_)
                                    have rz172 := n_range z172
                                    refine Ev.inlS (L := L_X10_slotOf) (nL := 2) rfl rfl (Nat.le_of_ble_eq_true rfl) ?_
                                    generalize hQ173 : (fun (o : ab_O) => Ev _ _ _ _) = Q173
                                    refine (show Ev (ab_T L_X10_slotOf) 0 ([some (.int k85), some (.int z172)], [], (0, 0), hp167) Q173 from ?_)
                                    exact by
                                     refine bs_lit (k := 2) rfl rfl fun z174 hz174 => ?_
                                     refine Ev.step (j := 2) (s' := ([some (.int k85), some (.int z172)], [.int k85, .int z174], (0, 0), hp167)) rfl rfl ?_
                                     refine bs_mul (2) rfl (Or.inl hz174) (by rw [hz174]; omega) (by rw [hz174]; omega) fun z175 hz175 => ?_
                                     rw [hz174] at hz175
                                     refine Ev.step (j := 4) (s' := ([some (.int k85), some (.int z172)], [.int z172, .int z175], (0, 0), hp167)) rfl rfl ?_
                                     first | (refine bs_add rfl (by omega) (by omega) fun z176 hz176 => ?_) | (refine bs_any rfl fun z176 => ?_)
                                     have rz176 := n_range z176
                                     refine Ev.ret rfl rfl ?_
                                     rw [← hQ173]
                                     refine (show Ev _ 101 ([some (.ref 7), some (.ref a1), some (.ref 20), some (.int z72), some (.int k85)], [.int z176, .ref 21], (0, 0), hp167) _ from ?_)
                                     exact by
                                      refine Ev.step (j := 102) (s' := ([some (.ref 7), some (.ref a1), some (.ref 20), some (.int z72), some (.int k85)], [.int z176, .ref 21, .int z176, .ref 21], (0, 0), hp167)) rfl rfl ?_
                                      refine bs_ld (g := 156) 0 11 (0, 999) rfl Hhp167 (bs_R.uq Hhp167 (g := 156) rfl) (by decide) rfl (by decide) (by decide) rfl (by decide) (by omega) (by omega) fun z177 hz177 lz177 gz177 => ?_
                                      dsimp only at lz177 gz177
                                      have eyv : z177.toInt = yv := Option.some.inj ((bs_at hz177 (show _ = 2 * k85.toInt.toNat + 1 - fr by omega)).symm.trans ((ehp167 _ _ (Or.inr (by omega))).trans hyv))
                                      refine Ev.step (j := 104) (s' := ([some (.ref 7), some (.ref a1), some (.ref 20), some (.int z72), some (.int k85)], [.ref 7, .int z177, .int z176, .ref 21], (0, 0), hp167)) rfl rfl ?_
                                      refine bs_getU (g := 1) (g1 := 100) rfl rfl Hhp167 (bs_R.uq Hhp167 (g := 1) rfl) (by decide) rfl rfl ?_
                                      refine Ev.step (j := 109) (s' := ([some (.ref 7), some (.ref a1), some (.ref 20), some (.int z72), some (.int k85)], [.int k85, .ref 8, .int z177, .int z176, .ref 21], (0, 0), hp167)) rfl rfl ?_
                                      refine bs_ld (g := 100) 0 5 (-2147483648, 2147483647) rfl Hhp167 (bs_R.uq Hhp167 (g := 100) rfl) (by decide) rfl (by decide) (by decide) rfl (by decide) (by omega) (by omega) fun z178 hz178 lz178 gz178 => ?_
                                      dsimp only at lz178 gz178
                                      have e179 : z178.toInt = fv := Option.some.inj (hz178.symm.trans h170)
                                      first | (refine bs_add rfl (by omega) (by omega) fun z180 hz180 => ?_) | (refine bs_any rfl fun z180 => ?_)
                                      have rz180 := n_range z180
                                      refine bs_st (W := [(156, 0, 11)]) (g := 156) 0 11 (0, 999) rfl Hhp167 (bs_R.uq Hhp167 (g := 156) rfl) (by decide) rfl rfl (by decide) rfl rfl (by omega) (by omega) (by dsimp only; omega) (by dsimp only; omega) fun hp181 Hhp181 fhp181 rhp181 ehp181 qhp181 nhp181 => ?_
                                      have Fhp181 := sf_fr_tr Fhp167 (sf_fr_wider (W := [(1, 2, 3), (13, 7, 9), (100, 0, 5), (101, 0, 5), (156, 0, 11), (158, 0, 11), (159, 0, 11), (160, 0, 7), (161, 0, 7), (162, 0, 63)]) rfl fhp181)
                                      have h182 : sf_rd hp181 20 7 = some z12.toInt := (ehp181 _ _ (Or.inl (by decide))).trans h168
                                      have h183 : sf_rd hp181 a1 8 = some z92.toInt := (ehp181 _ _ (Or.inl (bs_nq (ra1.fr Fhp167) (bs_R.uq Hhp167 (g := 156) rfl) (by decide)))).trans h169
                                      have h184 : sf_rd hp181 8 k85.toInt.toNat = some fv := (ehp181 _ _ (Or.inl (by decide))).trans h170
                                      refine Ev.step (j := 113) (s' := ([some (.ref 7), some (.ref a1), some (.ref 20), some (.int z72), some (.int k85)], [.ref 20], (0, 0), hp181)) rfl rfl ?_
                                      exact by
                                       refine bs_getU (g := 13) (g1 := 159) rfl rfl Hhp181 (bs_R.uq Hhp181 (g := 13) rfl) (by decide) rfl rfl ?_
                                       refine Ev.step (j := 118) (s' := ([some (.ref 7), some (.ref a1), some (.ref 20), some (.int z72), some (.int k85)], [.int k85, .ref 24], (0, 0), hp181)) rfl rfl ?_
                                       refine bs_lit (k := 1) rfl rfl fun z185 hz185 => ?_
                                       refine Ev.step (j := 120) (s' := ([some (.ref 7), some (.ref a1), some (.ref 20), some (.int z72), some (.int k85)], [.int z72, .int z185, .int k85, .ref 24], (0, 0), hp181)) rfl rfl ?_
                                       first | (refine bs_sub rfl (by omega) (by omega) fun z186 hz186 => ?_) | (refine bs_any rfl fun z186 => ?_)
                                       have rz186 := n_range z186
                                       refine Ev.inlS (L := L_X10_slotOf) (nL := 2) rfl rfl (Nat.le_of_ble_eq_true rfl) ?_
                                       generalize hQ187 : (fun (o : ab_O) => Ev _ _ _ _) = Q187
                                       refine (show Ev (ab_T L_X10_slotOf) 0 ([some (.int k85), some (.int z186)], [], (0, 0), hp181) Q187 from ?_)
                                       exact by
                                        refine bs_lit (k := 2) rfl rfl fun z188 hz188 => ?_
                                        refine Ev.step (j := 2) (s' := ([some (.int k85), some (.int z186)], [.int k85, .int z188], (0, 0), hp181)) rfl rfl ?_
                                        refine bs_mul (2) rfl (Or.inl hz188) (by rw [hz188]; omega) (by rw [hz188]; omega) fun z189 hz189 => ?_
                                        rw [hz188] at hz189
                                        refine Ev.step (j := 4) (s' := ([some (.int k85), some (.int z186)], [.int z186, .int z189], (0, 0), hp181)) rfl rfl ?_
                                        first | (refine bs_add rfl (by omega) (by omega) fun z190 hz190 => ?_) | (refine bs_any rfl fun z190 => ?_)
                                        have rz190 := n_range z190
                                        refine Ev.ret rfl rfl ?_
                                        rw [← hQ187]
                                        refine (show Ev _ 124 ([some (.ref 7), some (.ref a1), some (.ref 20), some (.int z72), some (.int k85)], [.int z190, .ref 24], (0, 0), hp181) _ from ?_)
                                        exact by
                                         refine Ev.step (j := 125) (s' := ([some (.ref 7), some (.ref a1), some (.ref 20), some (.int z72), some (.int k85)], [.int z190, .ref 24, .int z190, .ref 24], (0, 0), hp181)) rfl rfl ?_
                                         refine bs_ld (g := 159) 0 11 (-2147483648, 2147483647) rfl Hhp181 (bs_R.uq Hhp181 (g := 159) rfl) (by decide) rfl (by decide) (by decide) rfl (by decide) (by omega) (by omega) fun z191 hz191 lz191 gz191 => ?_
                                         dsimp only at lz191 gz191
                                         refine Ev.step (j := 127) (s' := ([some (.ref 7), some (.ref a1), some (.ref 20), some (.int z72), some (.int k85)], [.ref 7, .int z191, .int z190, .ref 24], (0, 0), hp181)) rfl rfl ?_
                                         refine bs_getU (g := 1) (g1 := 100) rfl rfl Hhp181 (bs_R.uq Hhp181 (g := 1) rfl) (by decide) rfl rfl ?_
                                         refine Ev.step (j := 132) (s' := ([some (.ref 7), some (.ref a1), some (.ref 20), some (.int z72), some (.int k85)], [.int k85, .ref 8, .int z191, .int z190, .ref 24], (0, 0), hp181)) rfl rfl ?_
                                         refine bs_ld (g := 100) 0 5 (-2147483648, 2147483647) rfl Hhp181 (bs_R.uq Hhp181 (g := 100) rfl) (by decide) rfl (by decide) (by decide) rfl (by decide) (by omega) (by omega) fun z192 hz192 lz192 gz192 => ?_
                                         dsimp only at lz192 gz192
                                         have e193 : z192.toInt = fv := Option.some.inj (hz192.symm.trans h184)
                                         first | (refine bs_add rfl (by omega) (by omega) fun z194 hz194 => ?_) | (refine bs_any rfl fun z194 => ?_)
                                         have rz194 := n_range z194
                                         refine bs_st (W := [(159, 0, 11)]) (g := 159) 0 11 (-2147483648, 2147483647) rfl Hhp181 (bs_R.uq Hhp181 (g := 159) rfl) (by decide) rfl rfl (by decide) rfl rfl (by omega) (by omega) (by dsimp only; omega) (by dsimp only; omega) fun hp195 Hhp195 fhp195 rhp195 ehp195 qhp195 nhp195 => ?_
                                         have Fhp195 := sf_fr_tr Fhp181 (sf_fr_wider (W := [(1, 2, 3), (13, 7, 9), (100, 0, 5), (101, 0, 5), (156, 0, 11), (158, 0, 11), (159, 0, 11), (160, 0, 7), (161, 0, 7), (162, 0, 63)]) rfl fhp195)
                                         have h196 : sf_rd hp195 20 7 = some z12.toInt := (ehp195 _ _ (Or.inl (by decide))).trans h182
                                         have h197 : sf_rd hp195 a1 8 = some z92.toInt := (ehp195 _ _ (Or.inl (bs_nq (ra1.fr Fhp181) (bs_R.uq Hhp181 (g := 159) rfl) (by decide)))).trans h183
                                         have h198 : sf_rd hp195 8 k85.toInt.toNat = some fv := (ehp195 _ _ (Or.inl (by decide))).trans h184
                                         have h199 : sf_rd hp195 21 z176.toInt.toNat = some z180.toInt := (ehp195 _ _ (Or.inl (by decide))).trans rhp181
                                         refine bs_iinc (1) rfl rfl rfl rfl (by omega) (by omega) fun z200 hz200 => ?_
                                         exact by
                                          refine (show Ev _ 138 ([some (.ref 7), some (.ref a1), some (.ref 20), some (.int z72), some (.int z200)], [], (0, 0), hp195) _ from ?_)
                                          refine Ev.step (j := 59) (s' := ([some (.ref 7), some (.ref a1), some (.ref 20), some (.int z72), some (.int z200)], [], (0, 0), hp195)) rfl rfl ?_
                                          have FR3 : ∀ q : Nat, z200.toInt ≤ (q : Int) → (q : Int) < G → fr_ok hp195 21 fr q := fun q h1 h2 => fr_ok_same (i91 q (by omega) h2) ((ehp195 _ _ (Or.inl (by decide))).trans ((ehp181 _ _ (Or.inl (by decide))).trans (ehp167 _ _ (Or.inl (by decide))))) ((ehp195 _ _ (Or.inl (by decide))).trans ((ehp181 _ _ (Or.inr (by omega))).trans (ehp167 _ _ (Or.inr (by omega))))) ((ehp195 _ _ (Or.inl (by decide))).trans ((ehp181 _ _ (Or.inr (by omega))).trans (ehp167 _ _ (Or.inr (by omega)))))
                                          refine ih88 (z200, hp195, t87) ⟨Hhp195, Fhp195, h196, (by first | omega | assumption), (by first | exact FR3 | exact fun q _ hq => i80 q hq)⟩ ?_
                                          show (6 - z200.toInt).toNat < (6 - k85.toInt).toNat
                                          omega
                            · skip
                              refine Ev.step (j := 18) (s' := ([some (.ref 7), some (.ref a1), some (.ref 20), some (.int z72), some (.int k74)], [.ref 7], (0, 0), hp75)) rfl rfl ?_
                              exact by
                               refine bs_getI 1 rfl rfl rfl Hhp75 (bs_R.uq Hhp75 (g := 1) rfl) (by decide) rfl fun z201 hz201 lz201 gz201 => ?_
                               refine bs_lit (k := 1) rfl rfl fun z202 hz202 => ?_
                               refine Ev.step (j := 24) (s' := ([some (.ref 7), some (.ref a1), some (.ref 20), some (.int z72), some (.int k74)], [.int k74, .int z202, .int z201], (0, 0), hp75)) rfl rfl ?_
                               refine bs_any rfl fun z203 => ?_
                               have rz203 := n_range z203
                               refine bs_any rfl fun z204 => ?_
                               have rz204 := n_range z204
                               refine bs_ifeq rfl (fun c205 => ?_) (fun c205 => ?_)
                               · skip
                                 have c206 : z204.toInt = 0 := by omega
                                 refine bs_iinc (1) rfl rfl rfl rfl (by omega) (by omega) fun z207 hz207 => ?_
                                 exact by
                                  refine (show Ev _ 53 ([some (.ref 7), some (.ref a1), some (.ref 20), some (.int z72), some (.int z207)], [], (0, 0), hp75) _ from ?_)
                                  refine Ev.step (j := 8) (s' := ([some (.ref 7), some (.ref a1), some (.ref 20), some (.int z72), some (.int z207)], [], (0, 0), hp75)) rfl rfl ?_
                                  have FR2 : ∀ q : Nat, (q : Int) < G → fr_ok hp75 21 fr q := fun q hq => fr_ok_same (i80 q hq) rfl rfl rfl
                                  refine ih77 (z207, hp75, t76) ⟨Hhp75, Fhp75, i78, (by first | omega | assumption), (by first | exact FR2 | exact FR)⟩ ?_
                                  show (8 - z207.toInt).toNat < (8 - k74.toInt).toNat
                                  omega
                               · skip
                                 refine Ev.step (j := 30) (s' := ([some (.ref 7), some (.ref a1), some (.ref 20), some (.int z72), some (.int k74)], [.ref 20], (0, 0), hp75)) rfl rfl ?_
                                 exact by
                                  refine bs_getU (g := 13) (g1 := 160) rfl rfl Hhp75 (bs_R.uq Hhp75 (g := 13) rfl) (by decide) rfl rfl ?_
                                  refine Ev.step (j := 35) (s' := ([some (.ref 7), some (.ref a1), some (.ref 20), some (.int z72), some (.int k74)], [.int k74, .ref 25], (0, 0), hp75)) rfl rfl ?_
                                  refine bs_lit (k := 1) rfl rfl fun z208 hz208 => ?_
                                  refine Ev.step (j := 37) (s' := ([some (.ref 7), some (.ref a1), some (.ref 20), some (.int z72), some (.int k74)], [.int z72, .int z208, .int k74, .ref 25], (0, 0), hp75)) rfl rfl ?_
                                  first | (refine bs_sub rfl (by omega) (by omega) fun z209 hz209 => ?_) | (refine bs_any rfl fun z209 => ?_)
                                  have rz209 := n_range z209
                                  refine bs_st (W := [(160, 0, 7)]) (g := 160) 0 7 (-2147483648, 2147483647) rfl Hhp75 (bs_R.uq Hhp75 (g := 160) rfl) (by decide) rfl rfl (by decide) rfl rfl (by omega) (by omega) (by dsimp only; omega) (by dsimp only; omega) fun hp210 Hhp210 fhp210 rhp210 ehp210 qhp210 nhp210 => ?_
                                  have Fhp210 := sf_fr_tr Fhp75 (sf_fr_wider (W := [(1, 2, 3), (13, 7, 9), (100, 0, 5), (101, 0, 5), (156, 0, 11), (158, 0, 11), (159, 0, 11), (160, 0, 7), (161, 0, 7), (162, 0, 63)]) rfl fhp210)
                                  have h211 : sf_rd hp210 20 7 = some z12.toInt := (ehp210 _ _ (Or.inl (by decide))).trans i78
                                  have h212 : sf_rd hp210 a1 9 = some z81.toInt := (ehp210 _ _ (Or.inl (bs_nq (ra1.fr Fhp75) (bs_R.uq Hhp75 (g := 160) rfl) (by decide)))).trans hz81
                                  have h213 : sf_rd hp210 7 2 = some z201.toInt := (ehp210 _ _ (Or.inl (by decide))).trans hz201
                                  refine Ev.step (j := 40) (s' := ([some (.ref 7), some (.ref a1), some (.ref 20), some (.int z72), some (.int k74)], [.ref 20], (0, 0), hp210)) rfl rfl ?_
                                  exact by
                                   refine bs_getU (g := 13) (g1 := 161) rfl rfl Hhp210 (bs_R.uq Hhp210 (g := 13) rfl) (by decide) rfl rfl ?_
                                   refine Ev.step (j := 45) (s' := ([some (.ref 7), some (.ref a1), some (.ref 20), some (.int z72), some (.int k74)], [.int k74, .ref 26], (0, 0), hp210)) rfl rfl ?_
                                   refine Ev.step (j := 46) (s' := ([some (.ref 7), some (.ref a1), some (.ref 20), some (.int z72), some (.int k74)], [.int k74, .ref 26, .int k74, .ref 26], (0, 0), hp210)) rfl rfl ?_
                                   refine bs_ld (g := 161) 0 7 (-2147483648, 2147483647) rfl Hhp210 (bs_R.uq Hhp210 (g := 161) rfl) (by decide) rfl (by decide) (by decide) rfl (by decide) (by omega) (by omega) fun z214 hz214 lz214 gz214 => ?_
                                   dsimp only at lz214 gz214
                                   refine bs_lit (k := 1) rfl rfl fun z215 hz215 => ?_
                                   first | (refine bs_add rfl (by omega) (by omega) fun z216 hz216 => ?_) | (refine bs_any rfl fun z216 => ?_)
                                   have rz216 := n_range z216
                                   refine bs_st (W := [(161, 0, 7)]) (g := 161) 0 7 (-2147483648, 2147483647) rfl Hhp210 (bs_R.uq Hhp210 (g := 161) rfl) (by decide) rfl rfl (by decide) rfl rfl (by omega) (by omega) (by dsimp only; omega) (by dsimp only; omega) fun hp217 Hhp217 fhp217 rhp217 ehp217 qhp217 nhp217 => ?_
                                   have Fhp217 := sf_fr_tr Fhp210 (sf_fr_wider (W := [(1, 2, 3), (13, 7, 9), (100, 0, 5), (101, 0, 5), (156, 0, 11), (158, 0, 11), (159, 0, 11), (160, 0, 7), (161, 0, 7), (162, 0, 63)]) rfl fhp217)
                                   have h218 : sf_rd hp217 20 7 = some z12.toInt := (ehp217 _ _ (Or.inl (by decide))).trans h211
                                   have h219 : sf_rd hp217 a1 9 = some z81.toInt := (ehp217 _ _ (Or.inl (bs_nq (ra1.fr Fhp210) (bs_R.uq Hhp210 (g := 161) rfl) (by decide)))).trans h212
                                   have h220 : sf_rd hp217 7 2 = some z201.toInt := (ehp217 _ _ (Or.inl (by decide))).trans h213
                                   have h221 : sf_rd hp217 25 k74.toInt.toNat = some z209.toInt := (ehp217 _ _ (Or.inl (by decide))).trans rhp210
                                   refine bs_iinc (1) rfl rfl rfl rfl (by omega) (by omega) fun z222 hz222 => ?_
                                   exact by
                                    refine (show Ev _ 53 ([some (.ref 7), some (.ref a1), some (.ref 20), some (.int z72), some (.int z222)], [], (0, 0), hp217) _ from ?_)
                                    refine Ev.step (j := 8) (s' := ([some (.ref 7), some (.ref a1), some (.ref 20), some (.int z72), some (.int z222)], [], (0, 0), hp217)) rfl rfl ?_
                                    have FR2 : ∀ q : Nat, (q : Int) < G → fr_ok hp217 21 fr q := fun q hq => fr_ok_same (i80 q hq) ((ehp217 _ _ (Or.inl (by decide))).trans (ehp210 _ _ (Or.inl (by decide)))) ((ehp217 _ _ (Or.inl (by decide))).trans (ehp210 _ _ (Or.inl (by decide)))) ((ehp217 _ _ (Or.inl (by decide))).trans (ehp210 _ _ (Or.inl (by decide))))
                                    refine ih77 (z222, hp217, t76) ⟨Hhp217, Fhp217, h218, (by first | omega | assumption), (by first | exact FR2 | exact FR)⟩ ?_
                                    show (8 - z222.toInt).toNat < (8 - k74.toInt).toNat
                                    omega
                       · skip
                         refine Ev.step (j := 128) (s' := ([some (.ref 7), some (.ref a1), some (.ref 20), some (.int z23), some (.int z28), some (.int z40), some (.int k56), o59], [.ref 20], (0, 0), hp57)) rfl rfl ?_
                         exact by
                          refine Ev.step (j := 129) (s' := ([some (.ref 7), some (.ref a1), some (.ref 20), some (.int z23), some (.int z28), some (.int z40), some (.int k56), o59], [.ref a1, .ref 20], (0, 0), hp57)) rfl rfl ?_
                          refine Ev.step (j := 131) (s' := ([some (.ref 7), some (.ref a1), some (.ref 20), some (.int z23), some (.int z28), some (.int z40), some (.int k56), o59], [.int k56, .ref a1, .ref 20], (0, 0), hp57)) rfl rfl ?_
                          refine bs_lit (k := 1) rfl rfl fun z223 hz223 => ?_
                          refine Ev.step (j := 133) (s' := ([some (.ref 7), some (.ref a1), some (.ref 20), some (.int z23), some (.int z28), some (.int z40), some (.int k56), o59], [.int z23, .int z223, .int k56, .ref a1, .ref 20], (0, 0), hp57)) rfl rfl ?_
                          first | (refine bs_sub rfl (by omega) (by omega) fun z224 hz224 => ?_) | (refine bs_any rfl fun z224 => ?_)
                          have rz224 := n_range z224
                          refine Ev.inlS (L := L_X10_slotOf) (nL := 2) rfl rfl (Nat.le_of_ble_eq_true rfl) ?_
                          generalize hQ225 : (fun (o : ab_O) => Ev _ _ _ _) = Q225
                          refine (show Ev (ab_T L_X10_slotOf) 0 ([some (.int k56), some (.int z224)], [], (0, 0), hp57) Q225 from ?_)
                          exact by
                           refine bs_lit (k := 2) rfl rfl fun z226 hz226 => ?_
                           refine Ev.step (j := 2) (s' := ([some (.int k56), some (.int z224)], [.int k56, .int z226], (0, 0), hp57)) rfl rfl ?_
                           refine bs_mul (2) rfl (Or.inl hz226) (by rw [hz226]; omega) (by rw [hz226]; omega) fun z227 hz227 => ?_
                           rw [hz226] at hz227
                           refine Ev.step (j := 4) (s' := ([some (.int k56), some (.int z224)], [.int z224, .int z227], (0, 0), hp57)) rfl rfl ?_
                           first | (refine bs_add rfl (by omega) (by omega) fun z228 hz228 => ?_) | (refine bs_any rfl fun z228 => ?_)
                           have rz228 := n_range z228
                           refine Ev.ret rfl rfl ?_
                           rw [← hQ225]
                           refine (show Ev _ 137 ([some (.ref 7), some (.ref a1), some (.ref 20), some (.int z23), some (.int z28), some (.int z40), some (.int k56), o59], [.int z228, .ref a1, .ref 20], (0, 0), hp57) _ from ?_)
                           exact by
                            refine Ev.inl (L := (L_X6_lackAt Z_X7_amountOf)) (nL := 3) rfl (bs_rcv (g := 13) Hhp57 (bs_R.uq Hhp57 (g := 13) rfl) (by decide) rfl) rfl (Nat.le_of_ble_eq_true rfl) ?_
                            generalize hQ229 : (fun (o : ab_O) => Ev _ _ _ _) = Q229
                            refine (show Ev (ab_T (L_X6_lackAt Z_X7_amountOf)) 0 ([some (.ref 20), some (.ref a1), some (.int z228)], [], (0, 0), hp57) Q229 from ?_)
                            refine bs_lit (k := 0) rfl rfl fun z230 hz230 => ?_
                            refine Ev.step (j := 2) (s' := ([some (.ref 20), some (.ref a1), some (.int z228)], [.ref a1, .int z230], (0, 0), hp57)) rfl rfl ?_
                            refine bs_lit (k := 1) rfl rfl fun z231 hz231 => ?_
                            refine Ev.step (j := 4) (s' := ([some (.ref 20), some (.ref a1), some (.int z228)], [.int z228, .int z231, .ref a1, .int z230], (0, 0), hp57)) rfl rfl ?_
                            refine Ev.inl (L := L_X7_amountOf) (nL := 3) rfl (bs_rcv (g := 7) Hhp57 (ra1.fr Fhp57) (by decide) rfl) rfl (Nat.le_of_ble_eq_true rfl) ?_
                            generalize hQ232 : (fun (o : ab_O) => Ev _ _ _ _) = Q232
                            refine (show Ev (ab_T L_X7_amountOf) 0 ([some (.ref a1), some (.int z231), some (.int z228)], [], (0, 0), hp57) Q232 from ?_)
                            exact by
                             refine Ev.step (j := 1) (s' := ([some (.ref a1), some (.int z231), some (.int z228)], [.ref a1], (0, 0), hp57)) rfl rfl ?_
                             refine bs_getR (g := 7) (g1 := 119) rfl rfl Hhp57 (ra1.fr Fhp57) (by decide) rfl fun b233 qb233 rb233 => ?_
                             refine Ev.step (j := 5) (s' := ([some (.ref a1), some (.int z231), some (.int z228)], [.int z231, .ref b233], (0, 0), hp57)) rfl rfl ?_
                             refine bs_lit (k := 12) rfl rfl fun z234 hz234 => ?_
                             refine bs_mul (12) rfl (Or.inr hz234) (by rw [hz234]; omega) (by rw [hz234]; omega) fun z235 hz235 => ?_
                             rw [hz234] at hz235
                             refine Ev.step (j := 9) (s' := ([some (.ref a1), some (.int z231), some (.int z228)], [.int z228, .int z235, .ref b233], (0, 0), hp57)) rfl rfl ?_
                             first | (refine bs_add rfl (by omega) (by omega) fun z236 hz236 => ?_) | (refine bs_any rfl fun z236 => ?_)
                             have rz236 := n_range z236
                             refine bs_ld (g := 119) 12 23 (0, 250) rfl Hhp57 rb233 (by decide) rfl (by decide) (by decide) rfl (by decide) (by omega) (by omega) fun z237 hz237 lz237 gz237 => ?_
                             dsimp only at lz237 gz237
                             refine Ev.ret rfl rfl ?_
                             rw [← hQ232]
                             refine (show Ev _ 7 ([some (.ref 20), some (.ref a1), some (.int z228)], [.int z237, .int z230], (0, 0), hp57) _ from ?_)
                             exact by
                              refine Ev.step (j := 8) (s' := ([some (.ref 20), some (.ref a1), some (.int z228)], [.ref 20, .int z237, .int z230], (0, 0), hp57)) rfl rfl ?_
                              refine bs_getU (g := 13) (g1 := 156) rfl rfl Hhp57 (bs_R.uq Hhp57 (g := 13) rfl) (by decide) rfl rfl ?_
                              refine Ev.step (j := 12) (s' := ([some (.ref 20), some (.ref a1), some (.int z228)], [.int z228, .ref 21, .int z237, .int z230], (0, 0), hp57)) rfl rfl ?_
                              refine bs_ld (g := 156) 0 11 (0, 999) rfl Hhp57 (bs_R.uq Hhp57 (g := 156) rfl) (by decide) rfl (by decide) (by decide) rfl (by decide) (by omega) (by omega) fun z238 hz238 lz238 gz238 => ?_
                              dsimp only at lz238 gz238
                              first | (refine bs_sub rfl (by omega) (by omega) fun z239 hz239 => ?_) | (refine bs_any rfl fun z239 => ?_)
                              have rz239 := n_range z239
                              refine bs_max rfl rfl fun z240 hz240 => ?_
                              refine Ev.ret rfl rfl ?_
                              rw [← hQ229]
                              refine (show Ev _ 140 ([some (.ref 7), some (.ref a1), some (.ref 20), some (.int z23), some (.int z28), some (.int z40), some (.int k56), o59], [.int z240], (0, 0), hp57) _ from ?_)
                              exact by
                               refine Ev.step (j := 142) (s' := ([some (.ref 7), some (.ref a1), some (.ref 20), some (.int z23), some (.int z28), some (.int z40), some (.int k56), some (.int z240)], [], (0, 0), hp57)) rfl rfl ?_
                               refine Ev.step (j := 143) (s' := ([some (.ref 7), some (.ref a1), some (.ref 20), some (.int z23), some (.int z28), some (.int z40), some (.int k56), some (.int z240)], [.ref 7], (0, 0), hp57)) rfl rfl ?_
                               refine bs_getU (g := 1) (g1 := 101) rfl rfl Hhp57 (bs_R.uq Hhp57 (g := 1) rfl) (by decide) rfl rfl ?_
                               refine Ev.step (j := 148) (s' := ([some (.ref 7), some (.ref a1), some (.ref 20), some (.int z23), some (.int z28), some (.int z40), some (.int k56), some (.int z240)], [.int k56, .ref 9], (0, 0), hp57)) rfl rfl ?_
                               refine Ev.step (j := 150) (s' := ([some (.ref 7), some (.ref a1), some (.ref 20), some (.int z23), some (.int z28), some (.int z40), some (.int k56), some (.int z240)], [.int z28, .int k56, .ref 9], (0, 0), hp57)) rfl rfl ?_
                               refine Ev.step (j := 151) (s' := ([some (.ref 7), some (.ref a1), some (.ref 20), some (.int z23), some (.int z28), some (.int z40), some (.int k56), some (.int z240)], [.ref 7, .int z28, .int k56, .ref 9], (0, 0), hp57)) rfl rfl ?_
                               refine bs_getI 1 rfl rfl rfl Hhp57 (bs_R.uq Hhp57 (g := 1) rfl) (by decide) rfl fun z241 hz241 lz241 gz241 => ?_
                               first | (refine bs_sub rfl (by omega) (by omega) fun z242 hz242 => ?_) | (refine bs_any rfl fun z242 => ?_)
                               have rz242 := n_range z242
                               refine bs_st (W := [(101, 0, 5)]) (g := 101) 0 5 (-2147483648, 2147483647) rfl Hhp57 (bs_R.uq Hhp57 (g := 101) rfl) (by decide) rfl rfl (by decide) rfl rfl (by omega) (by omega) (by dsimp only; omega) (by dsimp only; omega) fun hp243 Hhp243 fhp243 rhp243 ehp243 qhp243 nhp243 => ?_
                               have Fhp243 := sf_fr_tr Fhp57 (sf_fr_wider (W := [(1, 2, 3), (13, 7, 9), (100, 0, 5), (101, 0, 5), (156, 0, 11), (158, 0, 11), (159, 0, 11), (160, 0, 7), (161, 0, 7), (162, 0, 63)]) rfl fhp243)
                               have h244 : sf_rd hp243 20 7 = some z12.toInt := (ehp243 _ _ (Or.inl (by decide))).trans i61
                               have h245 : sf_rd hp243 a1 8 = some z64.toInt := (ehp243 _ _ (Or.inl (bs_nq (ra1.fr Fhp57) (bs_R.uq Hhp57 (g := 101) rfl) (by decide)))).trans hz64
                               have h246 : sf_rd hp243 b233 z236.toInt.toNat = some z237.toInt := (ehp243 _ _ (Or.inl (bs_nq rb233 (bs_R.uq Hhp57 (g := 101) rfl) (by decide)))).trans hz237
                               have h247 : sf_rd hp243 21 z228.toInt.toNat = some z238.toInt := (ehp243 _ _ (Or.inl (by decide))).trans hz238
                               have h248 : sf_rd hp243 7 3 = some z241.toInt := (ehp243 _ _ (Or.inl (by decide))).trans hz241
                               have r249 := rb233.fr fhp243
                               refine Ev.step (j := 157) (s' := ([some (.ref 7), some (.ref a1), some (.ref 20), some (.int z23), some (.int z28), some (.int z40), some (.int k56), some (.int z240)], [.ref 7], (0, 0), hp243)) rfl rfl ?_
                               exact by
                                refine bs_getU (g := 1) (g1 := 100) rfl rfl Hhp243 (bs_R.uq Hhp243 (g := 1) rfl) (by decide) rfl rfl ?_
                                refine Ev.step (j := 162) (s' := ([some (.ref 7), some (.ref a1), some (.ref 20), some (.int z23), some (.int z28), some (.int z40), some (.int k56), some (.int z240)], [.int k56, .ref 8], (0, 0), hp243)) rfl rfl ?_
                                refine Ev.step (j := 163) (s' := ([some (.ref 7), some (.ref a1), some (.ref 20), some (.int z23), some (.int z28), some (.int z40), some (.int k56), some (.int z240)], [.ref 20, .int k56, .ref 8], (0, 0), hp243)) rfl rfl ?_
                                refine bs_getU (g := 13) (g1 := 156) rfl rfl Hhp243 (bs_R.uq Hhp243 (g := 13) rfl) (by decide) rfl rfl ?_
                                refine Ev.step (j := 168) (s' := ([some (.ref 7), some (.ref a1), some (.ref 20), some (.int z23), some (.int z28), some (.int z40), some (.int k56), some (.int z240)], [.int k56, .ref 21, .int k56, .ref 8], (0, 0), hp243)) rfl rfl ?_
                                refine Ev.step (j := 169) (s' := ([some (.ref 7), some (.ref a1), some (.ref 20), some (.int z23), some (.int z28), some (.int z40), some (.int k56), some (.int z240)], [.int z23, .int k56, .ref 21, .int k56, .ref 8], (0, 0), hp243)) rfl rfl ?_
                                refine Ev.inlS (L := L_X10_slotOf) (nL := 2) rfl rfl (Nat.le_of_ble_eq_true rfl) ?_
                                generalize hQ250 : (fun (o : ab_O) => Ev _ _ _ _) = Q250
                                refine (show Ev (ab_T L_X10_slotOf) 0 ([some (.int k56), some (.int z23)], [], (0, 0), hp243) Q250 from ?_)
                                exact by
                                 refine bs_lit (k := 2) rfl rfl fun z251 hz251 => ?_
                                 refine Ev.step (j := 2) (s' := ([some (.int k56), some (.int z23)], [.int k56, .int z251], (0, 0), hp243)) rfl rfl ?_
                                 refine bs_mul (2) rfl (Or.inl hz251) (by rw [hz251]; omega) (by rw [hz251]; omega) fun z252 hz252 => ?_
                                 rw [hz251] at hz252
                                 refine Ev.step (j := 4) (s' := ([some (.int k56), some (.int z23)], [.int z23, .int z252], (0, 0), hp243)) rfl rfl ?_
                                 first | (refine bs_add rfl (by omega) (by omega) fun z253 hz253 => ?_) | (refine bs_any rfl fun z253 => ?_)
                                 have rz253 := n_range z253
                                 refine Ev.ret rfl rfl ?_
                                 rw [← hQ250]
                                 refine (show Ev _ 172 ([some (.ref 7), some (.ref a1), some (.ref 20), some (.int z23), some (.int z28), some (.int z40), some (.int k56), some (.int z240)], [.int z253, .ref 21, .int k56, .ref 8], (0, 0), hp243) _ from ?_)
                                 exact by
                                  refine bs_ld (g := 156) 0 11 (0, 999) rfl Hhp243 (bs_R.uq Hhp243 (g := 156) rfl) (by decide) rfl (by decide) (by decide) rfl (by decide) (by omega) (by omega) fun z254 hz254 lz254 gz254 => ?_
                                  dsimp only at lz254 gz254
                                  refine Ev.step (j := 175) (s' := ([some (.ref 7), some (.ref a1), some (.ref 20), some (.int z23), some (.int z28), some (.int z40), some (.int k56), some (.int z240)], [.int z240, .int z254, .int k56, .ref 8], (0, 0), hp243)) rfl rfl ?_
                                  refine Ev.step (j := 176) (s' := ([some (.ref 7), some (.ref a1), some (.ref 20), some (.int z23), some (.int z28), some (.int z40), some (.int k56), some (.int z240)], [.ref 7, .int z240, .int z254, .int k56, .ref 8], (0, 0), hp243)) rfl rfl ?_
                                  refine bs_getU (g := 1) (g1 := 101) rfl rfl Hhp243 (bs_R.uq Hhp243 (g := 1) rfl) (by decide) rfl rfl ?_
                                  refine Ev.step (j := 181) (s' := ([some (.ref 7), some (.ref a1), some (.ref 20), some (.int z23), some (.int z28), some (.int z40), some (.int k56), some (.int z240)], [.int k56, .ref 9, .int z240, .int z254, .int k56, .ref 8], (0, 0), hp243)) rfl rfl ?_
                                  refine bs_ld (g := 101) 0 5 (-2147483648, 2147483647) rfl Hhp243 (bs_R.uq Hhp243 (g := 101) rfl) (by decide) rfl (by decide) (by decide) rfl (by decide) (by omega) (by omega) fun z255 hz255 lz255 gz255 => ?_
                                  dsimp only at lz255 gz255
                                  have e256 : z255.toInt = z242.toInt := Option.some.inj (hz255.symm.trans rhp243)
                                  refine Ev.inlS (L := L_X1_amountMoved) (nL := 3) rfl rfl (Nat.le_of_ble_eq_true rfl) ?_
                                  generalize hQ257 : (fun (o : ab_O) => Ev _ _ _ _) = Q257
                                  refine (show Ev (ab_T L_X1_amountMoved) 0 ([some (.int z254), some (.int z240), some (.int z255)], [], (0, 0), hp243) Q257 from ?_)
                                  exact by
                                   refine bs_lit (k := 0) rfl rfl fun z258 hz258 => ?_
                                   refine Ev.step (j := 2) (s' := ([some (.int z254), some (.int z240), some (.int z255)], [.int z254, .int z258], (0, 0), hp243)) rfl rfl ?_
                                   refine Ev.step (j := 3) (s' := ([some (.int z254), some (.int z240), some (.int z255)], [.int z240, .int z254, .int z258], (0, 0), hp243)) rfl rfl ?_
                                   refine Ev.step (j := 4) (s' := ([some (.int z254), some (.int z240), some (.int z255)], [.int z255, .int z240, .int z254, .int z258], (0, 0), hp243)) rfl rfl ?_
                                   refine bs_min rfl rfl fun z259 hz259 => ?_
                                   refine bs_min rfl rfl fun z260 hz260 => ?_
                                   refine bs_max rfl rfl fun z261 hz261 => ?_
                                   refine Ev.ret rfl rfl ?_
                                   rw [← hQ257]
                                   refine (show Ev _ 185 ([some (.ref 7), some (.ref a1), some (.ref 20), some (.int z23), some (.int z28), some (.int z40), some (.int k56), some (.int z240)], [.int z261, .int k56, .ref 8], (0, 0), hp243) _ from ?_)
                                   exact by
                                    refine bs_st (W := [(100, 0, 5)]) (g := 100) 0 5 (-2147483648, 2147483647) rfl Hhp243 (bs_R.uq Hhp243 (g := 100) rfl) (by decide) rfl rfl (by decide) rfl rfl (by omega) (by omega) (by dsimp only; omega) (by dsimp only; omega) fun hp262 Hhp262 fhp262 rhp262 ehp262 qhp262 nhp262 => ?_
                                    have Fhp262 := sf_fr_tr Fhp243 (sf_fr_wider (W := [(1, 2, 3), (13, 7, 9), (100, 0, 5), (101, 0, 5), (156, 0, 11), (158, 0, 11), (159, 0, 11), (160, 0, 7), (161, 0, 7), (162, 0, 63)]) rfl fhp262)
                                    have h263 : sf_rd hp262 20 7 = some z12.toInt := (ehp262 _ _ (Or.inl (by decide))).trans h244
                                    have h264 : sf_rd hp262 a1 8 = some z64.toInt := (ehp262 _ _ (Or.inl (bs_nq (ra1.fr Fhp243) (bs_R.uq Hhp243 (g := 100) rfl) (by decide)))).trans h245
                                    have h265 : sf_rd hp262 b233 z236.toInt.toNat = some z237.toInt := (ehp262 _ _ (Or.inl (bs_nq r249 (bs_R.uq Hhp243 (g := 100) rfl) (by decide)))).trans h246
                                    have h266 : sf_rd hp262 21 z228.toInt.toNat = some z238.toInt := (ehp262 _ _ (Or.inl (by decide))).trans h247
                                    have h267 : sf_rd hp262 7 3 = some z241.toInt := (ehp262 _ _ (Or.inl (by decide))).trans h248
                                    have h268 : sf_rd hp262 9 k56.toInt.toNat = some z242.toInt := (ehp262 _ _ (Or.inl (by decide))).trans rhp243
                                    have h269 : sf_rd hp262 21 z253.toInt.toNat = some z254.toInt := (ehp262 _ _ (Or.inl (by decide))).trans hz254
                                    have r270 := r249.fr fhp262
                                    refine Ev.step (j := 187) (s' := ([some (.ref 7), some (.ref a1), some (.ref 20), some (.int z23), some (.int z28), some (.int z40), some (.int k56), some (.int z240)], [.ref 7], (0, 0), hp262)) rfl rfl ?_
                                    exact by
                                     refine Ev.step (j := 188) (s' := ([some (.ref 7), some (.ref a1), some (.ref 20), some (.int z23), some (.int z28), some (.int z40), some (.int k56), some (.int z240)], [.ref 7, .ref 7], (0, 0), hp262)) rfl rfl ?_
                                     refine bs_getI 1 rfl rfl rfl Hhp262 (bs_R.uq Hhp262 (g := 1) rfl) (by decide) rfl fun z271 hz271 lz271 gz271 => ?_
                                     have e272 : z271.toInt = z241.toInt := Option.some.inj (hz271.symm.trans h267)
                                     refine Ev.step (j := 192) (s' := ([some (.ref 7), some (.ref a1), some (.ref 20), some (.int z23), some (.int z28), some (.int z40), some (.int k56), some (.int z240)], [.ref 7, .int z271, .ref 7], (0, 0), hp262)) rfl rfl ?_
                                     refine bs_getU (g := 1) (g1 := 100) rfl rfl Hhp262 (bs_R.uq Hhp262 (g := 1) rfl) (by decide) rfl rfl ?_
                                     refine Ev.step (j := 197) (s' := ([some (.ref 7), some (.ref a1), some (.ref 20), some (.int z23), some (.int z28), some (.int z40), some (.int k56), some (.int z240)], [.int k56, .ref 8, .int z271, .ref 7], (0, 0), hp262)) rfl rfl ?_
                                     refine bs_ld (g := 100) 0 5 (-2147483648, 2147483647) rfl Hhp262 (bs_R.uq Hhp262 (g := 100) rfl) (by decide) rfl (by decide) (by decide) rfl (by decide) (by omega) (by omega) fun z273 hz273 lz273 gz273 => ?_
                                     dsimp only at lz273 gz273
                                     have e274 : z273.toInt = z261.toInt := Option.some.inj (hz273.symm.trans rhp262)
                                     first | (refine bs_add rfl (by omega) (by omega) fun z275 hz275 => ?_) | (refine bs_any rfl fun z275 => ?_)
                                     have rz275 := n_range z275
                                     refine bs_putI (W := [(1, 3, 3)]) (g := 1) rfl rfl Hhp262 (bs_R.uq Hhp262 (g := 1) rfl) (by decide) rfl rfl rfl rfl (Or.inl rfl) (by omega) (by omega) fun hp276 Hhp276 fhp276 rhp276 ehp276 qhp276 nhp276 => ?_
                                     have Fhp276 := sf_fr_tr Fhp262 (sf_fr_wider (W := [(1, 2, 3), (13, 7, 9), (100, 0, 5), (101, 0, 5), (156, 0, 11), (158, 0, 11), (159, 0, 11), (160, 0, 7), (161, 0, 7), (162, 0, 63)]) rfl fhp276)
                                     have h277 : sf_rd hp276 20 7 = some z12.toInt := (ehp276 _ _ (Or.inl (by decide))).trans h263
                                     have h278 : sf_rd hp276 a1 8 = some z64.toInt := (ehp276 _ _ (Or.inl (bs_nq (ra1.fr Fhp262) (bs_R.uq Hhp262 (g := 1) rfl) (by decide)))).trans h264
                                     have h279 : sf_rd hp276 b233 z236.toInt.toNat = some z237.toInt := (ehp276 _ _ (Or.inl (bs_nq r270 (bs_R.uq Hhp262 (g := 1) rfl) (by decide)))).trans h265
                                     have h280 : sf_rd hp276 21 z228.toInt.toNat = some z238.toInt := (ehp276 _ _ (Or.inl (by decide))).trans h266
                                     have h281 : sf_rd hp276 9 k56.toInt.toNat = some z242.toInt := (ehp276 _ _ (Or.inl (by decide))).trans h268
                                     have h282 : sf_rd hp276 21 z253.toInt.toNat = some z254.toInt := (ehp276 _ _ (Or.inl (by decide))).trans h269
                                     have h283 : sf_rd hp276 8 k56.toInt.toNat = some z261.toInt := (ehp276 _ _ (Or.inl (by decide))).trans rhp262
                                     have r284 := r270.fr fhp276
                                     refine bs_iinc (1) rfl rfl rfl rfl (by omega) (by omega) fun z285 hz285 => ?_
                                     exact by
                                      refine (show Ev _ 205 ([some (.ref 7), some (.ref a1), some (.ref 20), some (.int z23), some (.int z28), some (.int z40), some (.int z285), some (.int z240)], [], (0, 0), hp276) _ from ?_)
                                      refine Ev.step (j := 118) (s' := ([some (.ref 7), some (.ref a1), some (.ref 20), some (.int z23), some (.int z28), some (.int z40), some (.int z285), some (.int z240)], [], (0, 0), hp276)) rfl rfl ?_
                                      have FQ : ∀ q : Nat, (q : Int) < z285.toInt → fr_ok hp276 21 fr q := by
                                        intro q hq
                                        by_cases hqk : (q : Int) < k56.toInt
                                        · exact fr_ok_same (i63 q hqk) ((ehp276 _ _ (Or.inl (by decide))).trans ((ehp262 _ _ (Or.inr (by omega))).trans (ehp243 _ _ (Or.inl (by decide))))) ((ehp276 _ _ (Or.inl (by decide))).trans ((ehp262 _ _ (Or.inl (by decide))).trans (ehp243 _ _ (Or.inl (by decide))))) ((ehp276 _ _ (Or.inl (by decide))).trans ((ehp262 _ _ (Or.inl (by decide))).trans (ehp243 _ _ (Or.inl (by decide)))))
                                        · have eq : q = k56.toInt.toNat := by omega
                                          subst eq
                                          exact ⟨z261.toInt, z254.toInt, z238.toInt, h283, ((ehp276 _ _ (Or.inl (by decide))).trans (ehp262 _ _ (Or.inl (by decide)))).trans (bs_at hz254 (by omega)), ((ehp276 _ _ (Or.inl (by decide))).trans ((ehp262 _ _ (Or.inl (by decide))).trans (ehp243 _ _ (Or.inl (by decide))))).trans (bs_at hz238 (by omega)), by omega, by omega, by omega⟩
                                      refine ih60 (z285, (some (.int z240)), hp276, t58) ⟨Hhp276, Fhp276, h277, (by first | omega | assumption), (by first | exact FQ | exact fun q hq => absurd hq (by omega))⟩ ?_
                                      show (6 - z285.toInt).toNat < (6 - k56.toInt).toNat
                                      omega
                    · skip
                      refine Ev.step (j := 56) (s' := ([some (.ref 7), some (.ref a1), some (.ref 20), some (.int z23), some (.int z28), some (.int z40), some (.int k46), none], [.int z28], (0, 0), hp47)) rfl rfl ?_
                      exact by
                       refine Ev.step (j := 57) (s' := ([some (.ref 7), some (.ref a1), some (.ref 20), some (.int z23), some (.int z28), some (.int z40), some (.int k46), none], [.ref 7, .int z28], (0, 0), hp47)) rfl rfl ?_
                       refine bs_getI 1 rfl rfl rfl Hhp47 (bs_R.uq Hhp47 (g := 1) rfl) (by decide) rfl fun z286 hz286 lz286 gz286 => ?_
                       first | (refine bs_sub rfl (by omega) (by omega) fun z287 hz287 => ?_) | (refine bs_any rfl fun z287 => ?_)
                       have rz287 := n_range z287
                       refine bs_lit (k := 2) rfl rfl fun z288 hz288 => ?_
                       refine bs_lt rfl (fun c289 => ?_) (fun c289 => ?_)
                       · skip
                         refine bs_lit (k := 0) rfl rfl fun z290 hz290 => ?_
                         refine Ev.step (j := 118) (s' := ([some (.ref 7), some (.ref a1), some (.ref 20), some (.int z23), some (.int z28), some (.int z40), some (.int z290), none], [], (0, 0), hp47)) rfl rfl ?_
                         exact by
                          refine bs_loop (ι := Int32 × (Option Value) × ab_H × (Nat → Nat)) (fun ⟨k291, o294, hp292, t293⟩ => ([some (.ref 7), some (.ref a1), some (.ref 20), some (.int z23), some (.int z28), some (.int z40), some (.int k291), o294], [], (0, 0), hp292)) (fun ⟨k291, o294, hp292, t293⟩ => (sf_h t293 hp292) ∧ (sf_fr [(1, 2, 3), (13, 7, 9), (100, 0, 5), (101, 0, 5), (156, 0, 11), (158, 0, 11), (159, 0, 11), (160, 0, 7), (161, 0, 7), (162, 0, 63)] t hp t293 hp292) ∧ (sf_rd hp292 20 7 = some z12.toInt) ∧ (0 ≤ k291.toInt ∧ k291.toInt ≤ 6) ∧ (∀ q : Nat, (q : Int) < k291.toInt → fr_ok hp292 21 fr q)) (fun ⟨k291, o294, hp292, t293⟩ => (6 - k291.toInt).toNat) ?_ (z290, none, hp47, t48) ⟨Hhp47, Fhp47, i50, (by first | omega | assumption), (by first | exact FQ | exact fun q hq => absurd hq (by omega))⟩
                          rintro ⟨k291, o294, hp292, t293⟩ ⟨Hhp292, Fhp292, i296, i297, i298⟩ ih295
                          refine (show Ev _ 118 ([some (.ref 7), some (.ref a1), some (.ref 20), some (.int z23), some (.int z28), some (.int z40), some (.int k291), o294], [], (0, 0), hp292) _ from ?_)
                          refine Ev.step (j := 120) (s' := ([some (.ref 7), some (.ref a1), some (.ref 20), some (.int z23), some (.int z28), some (.int z40), some (.int k291), o294], [.int k291], (0, 0), hp292)) rfl rfl ?_
                          refine Ev.step (j := 121) (s' := ([some (.ref 7), some (.ref a1), some (.ref 20), some (.int z23), some (.int z28), some (.int z40), some (.int k291), o294], [.ref a1, .int k291], (0, 0), hp292)) rfl rfl ?_
                          refine bs_getI 7 rfl rfl rfl Hhp292 (ra1.fr Fhp292) (by decide) rfl fun z299 hz299 lz299 gz299 => ?_
                          have e300 : z299.toInt = G := Option.some.inj (hz299.symm.trans ((Fhp292.2.2.1 _ ra1.1 _ (by rw [ra1.2]; rfl)).trans hG))
                          refine bs_ge rfl (fun c301 => ?_) (fun c301 => ?_)
                          · skip
                            have FR : ∀ q : Nat, (q : Int) < G → fr_ok hp292 21 fr q := fun q hq => i298 q (by omega)
                            refine Ev.ret rfl rfl ?_
                            rw [← hQ18]
                            refine (show Ev _ 31 ([some (.ref 7), some (.ref a1), some (.ref 20), some (.int x3), some (.int z1), some (.int k3)], [], (0, 0), hp292) _ from ?_)
                            exact by
                             refine Ev.step (j := 32) (s' := ([some (.ref 7), some (.ref a1), some (.ref 20), some (.int x3), some (.int z1), some (.int k3)], [.ref 7], (0, 0), hp292)) rfl rfl ?_
                             refine Ev.step (j := 33) (s' := ([some (.ref 7), some (.ref a1), some (.ref 20), some (.int x3), some (.int z1), some (.int k3)], [.ref a1, .ref 7], (0, 0), hp292)) rfl rfl ?_
                             refine Ev.step (j := 34) (s' := ([some (.ref 7), some (.ref a1), some (.ref 20), some (.int x3), some (.int z1), some (.int k3)], [.ref 20, .ref a1, .ref 7], (0, 0), hp292)) rfl rfl ?_
                             refine Ev.inl (L := (L_X1_carry Z_X6_ferryShore Z_X10_slotOf)) (nL := 5) rfl (bs_rcv (g := 1) Hhp292 (bs_R.uq Hhp292 (g := 1) rfl) (by decide) rfl) rfl (Nat.le_of_ble_eq_true rfl) ?_
                             generalize hQ302 : (fun (o : ab_O) => Ev _ _ _ _) = Q302
                             refine (show Ev (ab_T (L_X1_carry Z_X6_ferryShore Z_X10_slotOf)) 0 ([some (.ref 7), some (.ref a1), some (.ref 20), none, none], [], (0, 0), hp292) Q302 from ?_)
                             refine Ev.step (j := 1) (s' := ([some (.ref 7), some (.ref a1), some (.ref 20), none, none], [.ref 20], (0, 0), hp292)) rfl rfl ?_
                             refine Ev.inl (L := L_X6_ferryShore) (nL := 1) rfl (bs_rcv (g := 13) Hhp292 (bs_R.uq Hhp292 (g := 13) rfl) (by decide) rfl) rfl (Nat.le_of_ble_eq_true rfl) ?_
                             generalize hQ303 : (fun (o : ab_O) => Ev _ _ _ _) = Q303
                             refine (show Ev (ab_T L_X6_ferryShore) 0 ([some (.ref 20)], [], (0, 0), hp292) Q303 from ?_)
                             exact by
                              refine Ev.step (j := 1) (s' := ([some (.ref 20)], [.ref 20], (0, 0), hp292)) rfl rfl ?_
                              refine bs_getI 13 rfl rfl rfl Hhp292 (bs_R.uq Hhp292 (g := 13) rfl) (by decide) rfl fun z304 hz304 lz304 gz304 => ?_
                              have e305 : z304.toInt = z12.toInt := Option.some.inj (hz304.symm.trans i296)
                              refine bs_lit (k := 2) rfl rfl fun z306 hz306 => ?_
                              refine bs_rem 2 rfl hz306 (by decide) (by omega) fun z307 hz307 => ?_
                              refine Ev.ret rfl rfl ?_
                              rw [← hQ303]
                              refine (show Ev _ 4 ([some (.ref 7), some (.ref a1), some (.ref 20), none, none], [.int z307], (0, 0), hp292) _ from ?_)
                              refine Ev.step (j := 5) (s' := ([some (.ref 7), some (.ref a1), some (.ref 20), some (.int z307), none], [], (0, 0), hp292)) rfl rfl ?_
                              exact by
                               refine bs_lit (k := 0) rfl rfl fun z308 hz308 => ?_
                               refine Ev.step (j := 8) (s' := ([some (.ref 7), some (.ref a1), some (.ref 20), some (.int z307), some (.int z308)], [], (0, 0), hp292)) rfl rfl ?_
                               refine bs_loop (ι := Int32 × ab_H × (Nat → Nat)) (fun ⟨k309, hp310, t311⟩ => ([some (.ref 7), some (.ref a1), some (.ref 20), some (.int z307), some (.int k309)], [], (0, 0), hp310)) (fun ⟨k309, hp310, t311⟩ => (sf_h t311 hp310) ∧ (sf_fr [(1, 2, 3), (13, 7, 9), (100, 0, 5), (101, 0, 5), (156, 0, 11), (158, 0, 11), (159, 0, 11), (160, 0, 7), (161, 0, 7), (162, 0, 63)] t hp t311 hp310) ∧ (sf_rd hp310 20 7 = some z12.toInt) ∧ (0 ≤ k309.toInt ∧ k309.toInt ≤ 8) ∧ (∀ q : Nat, (q : Int) < G → fr_ok hp310 21 fr q)) (fun ⟨k309, hp310, t311⟩ => (8 - k309.toInt).toNat) ?_ (z308, hp292, t293) ⟨Hhp292, Fhp292, i296, (by first | omega | assumption), (by first | exact FR2 | exact FR)⟩
                               rintro ⟨k309, hp310, t311⟩ ⟨Hhp310, Fhp310, i313, i314, i315⟩ ih312
                               refine (show Ev _ 8 ([some (.ref 7), some (.ref a1), some (.ref 20), some (.int z307), some (.int k309)], [], (0, 0), hp310) _ from ?_)
                               refine Ev.step (j := 10) (s' := ([some (.ref 7), some (.ref a1), some (.ref 20), some (.int z307), some (.int k309)], [.int k309], (0, 0), hp310)) rfl rfl ?_
                               refine Ev.step (j := 11) (s' := ([some (.ref 7), some (.ref a1), some (.ref 20), some (.int z307), some (.int k309)], [.ref a1, .int k309], (0, 0), hp310)) rfl rfl ?_
                               refine bs_getI 7 rfl rfl rfl Hhp310 (ra1.fr Fhp310) (by decide) rfl fun z316 hz316 lz316 gz316 => ?_
                               have e317 : z316.toInt = M := Option.some.inj (hz316.symm.trans ((Fhp310.2.2.1 _ ra1.1 _ (by rw [ra1.2]; rfl)).trans hM))
                               refine bs_ge rfl (fun c318 => ?_) (fun c318 => ?_)
                               · skip
                                 refine bs_lit (k := 0) rfl rfl fun z319 hz319 => ?_
                                 exact by
                                  refine Ev.step (j := 59) (s' := ([some (.ref 7), some (.ref a1), some (.ref 20), some (.int z307), some (.int z319)], [], (0, 0), hp310)) rfl rfl ?_
                                  refine bs_loop (ι := Int32 × ab_H × (Nat → Nat)) (fun ⟨k320, hp321, t322⟩ => ([some (.ref 7), some (.ref a1), some (.ref 20), some (.int z307), some (.int k320)], [], (0, 0), hp321)) (fun ⟨k320, hp321, t322⟩ => (sf_h t322 hp321) ∧ (sf_fr [(1, 2, 3), (13, 7, 9), (100, 0, 5), (101, 0, 5), (156, 0, 11), (158, 0, 11), (159, 0, 11), (160, 0, 7), (161, 0, 7), (162, 0, 63)] t hp t322 hp321) ∧ (sf_rd hp321 20 7 = some z12.toInt) ∧ (0 ≤ k320.toInt ∧ k320.toInt ≤ 6) ∧ (∀ q : Nat, k320.toInt ≤ (q : Int) → (q : Int) < G → fr_ok hp321 21 fr q)) (fun ⟨k320, hp321, t322⟩ => (6 - k320.toInt).toNat) ?_ (z319, hp310, t311) ⟨Hhp310, Fhp310, i313, (by first | omega | assumption), (by first | exact FR3 | exact fun q _ hq => i315 q hq)⟩
                                  rintro ⟨k320, hp321, t322⟩ ⟨Hhp321, Fhp321, i324, i325, i326⟩ ih323
                                  refine (show Ev _ 59 ([some (.ref 7), some (.ref a1), some (.ref 20), some (.int z307), some (.int k320)], [], (0, 0), hp321) _ from ?_)
                                  refine Ev.step (j := 61) (s' := ([some (.ref 7), some (.ref a1), some (.ref 20), some (.int z307), some (.int k320)], [.int k320], (0, 0), hp321)) rfl rfl ?_
                                  refine Ev.step (j := 62) (s' := ([some (.ref 7), some (.ref a1), some (.ref 20), some (.int z307), some (.int k320)], [.ref a1, .int k320], (0, 0), hp321)) rfl rfl ?_
                                  refine bs_getI 7 rfl rfl rfl Hhp321 (ra1.fr Fhp321) (by decide) rfl fun z327 hz327 lz327 gz327 => ?_
                                  have e328 : z327.toInt = G := Option.some.inj (hz327.symm.trans ((Fhp321.2.2.1 _ ra1.1 _ (by rw [ra1.2]; rfl)).trans hG))
                                  refine bs_ge rfl (fun c329 => ?_) (fun c329 => ?_)
                                  · skip
                                    refine Ev.step (j := 142) (s' := ([some (.ref 7), some (.ref a1), some (.ref 20), some (.int z307), some (.int k320)], [.ref 20], (0, 0), hp321)) rfl rfl ?_
                                    exact by
                                     refine Ev.step (j := 143) (s' := ([some (.ref 7), some (.ref a1), some (.ref 20), some (.int z307), some (.int k320)], [.ref 20, .ref 20], (0, 0), hp321)) rfl rfl ?_
                                     refine bs_getI 13 rfl rfl rfl Hhp321 (bs_R.uq Hhp321 (g := 13) rfl) (by decide) rfl fun z330 hz330 lz330 gz330 => ?_
                                     refine Ev.step (j := 147) (s' := ([some (.ref 7), some (.ref a1), some (.ref 20), some (.int z307), some (.int k320)], [.ref 7, .int z330, .ref 20], (0, 0), hp321)) rfl rfl ?_
                                     refine bs_getI 1 rfl rfl rfl Hhp321 (bs_R.uq Hhp321 (g := 1) rfl) (by decide) rfl fun z331 hz331 lz331 gz331 => ?_
                                     first | (refine bs_add rfl (by omega) (by omega) fun z332 hz332 => ?_) | (refine bs_any rfl fun z332 => ?_)
                                     have rz332 := n_range z332
                                     refine bs_putI (W := [(13, 9, 9)]) (g := 13) rfl rfl Hhp321 (bs_R.uq Hhp321 (g := 13) rfl) (by decide) rfl rfl rfl rfl (Or.inl rfl) (by omega) (by omega) fun hp333 Hhp333 fhp333 rhp333 ehp333 qhp333 nhp333 => ?_
                                     have Fhp333 := sf_fr_tr Fhp321 (sf_fr_wider (W := [(1, 2, 3), (13, 7, 9), (100, 0, 5), (101, 0, 5), (156, 0, 11), (158, 0, 11), (159, 0, 11), (160, 0, 7), (161, 0, 7), (162, 0, 63)]) rfl fhp333)
                                     have h334 : sf_rd hp333 20 7 = some z12.toInt := (ehp333 _ _ (Or.inr (by omega))).trans i324
                                     have h335 : sf_rd hp333 a1 8 = some z327.toInt := (ehp333 _ _ (Or.inl (bs_nq (ra1.fr Fhp321) (bs_R.uq Hhp321 (g := 13) rfl) (by decide)))).trans hz327
                                     have h336 : sf_rd hp333 7 3 = some z331.toInt := (ehp333 _ _ (Or.inl (by decide))).trans hz331
                                     refine Ev.step (j := 155) (s' := ([some (.ref 7), some (.ref a1), some (.ref 20), some (.int z307), some (.int k320)], [.ref 7], (0, 0), hp333)) rfl rfl ?_
                                     exact by
                                      refine bs_getI 1 rfl rfl rfl Hhp333 (bs_R.uq Hhp333 (g := 1) rfl) (by decide) rfl fun z337 hz337 lz337 gz337 => ?_
                                      have e338 : z337.toInt = z331.toInt := Option.some.inj (hz337.symm.trans h336)
                                      refine bs_ifne rfl (fun c339 => ?_) (fun c339 => ?_)
                                      · skip
                                        refine Ev.ret rfl rfl ?_
                                        rw [← hQ302]
                                        refine (show Ev _ 37 ([some (.ref 7), some (.ref a1), some (.ref 20), some (.int x3), some (.int z1), some (.int k3)], [], (0, 0), hp333) _ from ?_)
                                        refine Ev.step (j := 38) (s' := ([some (.ref 7), some (.ref a1), some (.ref 20), some (.int x3), some (.int z1), some (.int k3)], [.ref 20], (0, 0), hp333)) rfl rfl ?_
                                        refine Ev.step (j := 39) (s' := ([some (.ref 7), some (.ref a1), some (.ref 20), some (.int x3), some (.int z1), some (.int k3)], [.ref a1, .ref 20], (0, 0), hp333)) rfl rfl ?_
                                        refine bs_call (K := kq_X6_makeAndEat_8768d4) [.ref 20, .ref a1] [] rfl ct_X6_makeAndEat_8768d4 Hhp333 rfl rfl rfl (bs_rcv (g := 13) Hhp333 (bs_R.uq Hhp333 (g := 13) rfl) (by decide) rfl) rfl ?_ (sf_S_nil) fun r340 hp341 thp341 Hhp341 fhp341 ahp341 php341 => ?_
                                        · intro q k h
                                          match q, h with
                                          | 0, h => cases h; exact bs_jR (bs_R.uq Hhp333 (g := 13) rfl)
                                          | 1, h => cases h; exact bs_jR (ra1.fr Fhp333)
                                          | q + 2, h => cases h
                                        obtain rfl := ahp341.1 rfl
                                        have Fhp341 := sf_fr_tr Fhp333 (sf_fr_wider (W := [(1, 2, 3), (13, 7, 9), (100, 0, 5), (101, 0, 5), (156, 0, 11), (158, 0, 11), (159, 0, 11), (160, 0, 7), (161, 0, 7), (162, 0, 63)]) rfl fhp341)
                                        have h342 : sf_rd hp341 20 7 = some z12.toInt := (fhp341.2.2.1 _ (bs_R.uq Hhp333 (g := 13) (p := 20) rfl).1 _ (by rw [(bs_R.uq Hhp333 (g := 13) (p := 20) rfl).2]; rfl)).trans h334
                                        have h343 : sf_rd hp341 a1 8 = some z327.toInt := (fhp341.2.2.1 _ (ra1.fr Fhp333).1 _ (by rw [(ra1.fr Fhp333).2]; rfl)).trans h335
                                        have h344 : sf_rd hp341 7 3 = some z331.toInt := (fhp341.2.2.1 _ (bs_R.uq Hhp333 (g := 1) (p := 7) rfl).1 _ (by rw [(bs_R.uq Hhp333 (g := 1) (p := 7) rfl).2]; rfl)).trans h336
                                        have h345 : sf_rd hp341 20 9 = some z332.toInt := (fhp341.2.2.1 _ (bs_R.uq Hhp333 (g := 13) (p := 20) rfl).1 _ (by rw [(bs_R.uq Hhp333 (g := 13) (p := 20) rfl).2]; rfl)).trans rhp333
                                        refine (show Ev _ 42 ([some (.ref 7), some (.ref a1), some (.ref 20), some (.int x3), some (.int z1), some (.int k3)], [], (0, 0), hp341) _ from ?_)
                                        exact by
                                         refine Ev.step (j := 43) (s' := ([some (.ref 7), some (.ref a1), some (.ref 20), some (.int x3), some (.int z1), some (.int k3)], [.ref 20], (0, 0), hp341)) rfl rfl ?_
                                         refine Ev.step (j := 44) (s' := ([some (.ref 7), some (.ref a1), some (.ref 20), some (.int x3), some (.int z1), some (.int k3)], [.ref a1, .ref 20], (0, 0), hp341)) rfl rfl ?_
                                         refine bs_call (K := kq_X6_countApart_8768d4) [.ref 20, .ref a1] [] rfl ct_X6_countApart_8768d4 Hhp341 rfl rfl rfl (bs_rcv (g := 13) Hhp341 (bs_R.uq Hhp341 (g := 13) rfl) (by decide) rfl) rfl ?_ (sf_S_nil) fun r346 hp347 thp347 Hhp347 fhp347 ahp347 php347 => ?_
                                         · intro q k h
                                           match q, h with
                                           | 0, h => cases h; exact bs_jR (bs_R.uq Hhp341 (g := 13) rfl)
                                           | 1, h => cases h; exact bs_jR (ra1.fr Fhp341)
                                           | q + 2, h => cases h
                                         obtain rfl := ahp347.1 rfl
                                         have Fhp347 := sf_fr_tr Fhp341 (sf_fr_wider (W := [(1, 2, 3), (13, 7, 9), (100, 0, 5), (101, 0, 5), (156, 0, 11), (158, 0, 11), (159, 0, 11), (160, 0, 7), (161, 0, 7), (162, 0, 63)]) rfl fhp347)
                                         have h348 : sf_rd hp347 20 7 = some z12.toInt := (fhp347.2.2.1 _ (bs_R.uq Hhp341 (g := 13) (p := 20) rfl).1 _ (by rw [(bs_R.uq Hhp341 (g := 13) (p := 20) rfl).2]; rfl)).trans h342
                                         have h349 : sf_rd hp347 a1 8 = some z327.toInt := (fhp347.2.2.1 _ (ra1.fr Fhp341).1 _ (by rw [(ra1.fr Fhp341).2]; rfl)).trans h343
                                         have h350 : sf_rd hp347 7 3 = some z331.toInt := (fhp347.2.2.1 _ (bs_R.uq Hhp341 (g := 1) (p := 7) rfl).1 _ (by rw [(bs_R.uq Hhp341 (g := 1) (p := 7) rfl).2]; rfl)).trans h344
                                         have h351 : sf_rd hp347 20 9 = some z332.toInt := (fhp347.2.2.1 _ (bs_R.uq Hhp341 (g := 13) (p := 20) rfl).1 _ (by rw [(bs_R.uq Hhp341 (g := 13) (p := 20) rfl).2]; rfl)).trans h345
                                         refine (show Ev _ 47 ([some (.ref 7), some (.ref a1), some (.ref 20), some (.int x3), some (.int z1), some (.int k3)], [], (0, 0), hp347) _ from ?_)
                                         exact by
                                          refine Ev.step (j := 48) (s' := ([some (.ref 7), some (.ref a1), some (.ref 20), some (.int x3), some (.int z1), some (.int k3)], [.ref 20], (0, 0), hp347)) rfl rfl ?_
                                          refine Ev.step (j := 49) (s' := ([some (.ref 7), some (.ref a1), some (.ref 20), some (.int x3), some (.int z1), some (.int k3)], [.ref 20, .ref 20], (0, 0), hp347)) rfl rfl ?_
                                          refine bs_getI 13 rfl rfl rfl Hhp347 (bs_R.uq Hhp347 (g := 13) rfl) (by decide) rfl fun z352 hz352 lz352 gz352 => ?_
                                          have e353 : z352.toInt = z12.toInt := Option.some.inj (hz352.symm.trans h348)
                                          refine bs_lit (k := 1) rfl rfl fun z354 hz354 => ?_
                                          first | (refine bs_add rfl (by omega) (by omega) fun z355 hz355 => ?_) | (refine bs_any rfl fun z355 => ?_)
                                          have rz355 := n_range z355
                                          refine bs_putI (W := [(13, 7, 7)]) (g := 13) rfl rfl Hhp347 (bs_R.uq Hhp347 (g := 13) rfl) (by decide) rfl rfl rfl rfl (Or.inl rfl) (by omega) (by omega) fun hp356 Hhp356 fhp356 rhp356 ehp356 qhp356 nhp356 => ?_
                                          have Fhp356 := sf_fr_tr Fhp347 (sf_fr_wider (W := [(1, 2, 3), (13, 7, 9), (100, 0, 5), (101, 0, 5), (156, 0, 11), (158, 0, 11), (159, 0, 11), (160, 0, 7), (161, 0, 7), (162, 0, 63)]) rfl fhp356)
                                          have h357 : sf_rd hp356 a1 8 = some z327.toInt := (ehp356 _ _ (Or.inl (bs_nq (ra1.fr Fhp347) (bs_R.uq Hhp347 (g := 13) rfl) (by decide)))).trans h349
                                          have h358 : sf_rd hp356 7 3 = some z331.toInt := (ehp356 _ _ (Or.inl (by decide))).trans h350
                                          have h359 : sf_rd hp356 20 9 = some z332.toInt := (ehp356 _ _ (Or.inr (by omega))).trans h351
                                          refine bs_iinc (1) rfl rfl rfl rfl (by omega) (by omega) fun z360 hz360 => ?_
                                          exact by
                                           refine (show Ev _ 60 ([some (.ref 7), some (.ref a1), some (.ref 20), some (.int x3), some (.int z1), some (.int z360)], [], (0, 0), hp356) _ from ?_)
                                           refine Ev.step (j := 9) (s' := ([some (.ref 7), some (.ref a1), some (.ref 20), some (.int x3), some (.int z1), some (.int z360)], [], (0, 0), hp356)) rfl rfl ?_
                                           refine ih6 (z360, hp356, thp347) ⟨Hhp356, Fhp356, (by first | omega | assumption), (by first | omega | assumption)⟩ ?_
                                           show (x3.toInt - z360.toInt).toNat < (x3.toInt - k3.toInt).toNat
                                           omega
                                      · skip
                                        have c361 : z337.toInt = 0 := by omega
                                        refine Ev.step (j := 162) (s' := ([some (.ref 7), some (.ref a1), some (.ref 20), some (.int z307), some (.int k320)], [.ref 20], (0, 0), hp333)) rfl rfl ?_
                                        exact by
                                         refine Ev.step (j := 163) (s' := ([some (.ref 7), some (.ref a1), some (.ref 20), some (.int z307), some (.int k320)], [.ref 20, .ref 20], (0, 0), hp333)) rfl rfl ?_
                                         refine bs_getI 13 rfl rfl rfl Hhp333 (bs_R.uq Hhp333 (g := 13) rfl) (by decide) rfl fun z362 hz362 lz362 gz362 => ?_
                                         refine bs_lit (k := 1) rfl rfl fun z363 hz363 => ?_
                                         first | (refine bs_add rfl (by omega) (by omega) fun z364 hz364 => ?_) | (refine bs_any rfl fun z364 => ?_)
                                         have rz364 := n_range z364
                                         refine bs_putI (W := [(13, 8, 8)]) (g := 13) rfl rfl Hhp333 (bs_R.uq Hhp333 (g := 13) rfl) (by decide) rfl rfl rfl rfl (Or.inl rfl) (by omega) (by omega) fun hp365 Hhp365 fhp365 rhp365 ehp365 qhp365 nhp365 => ?_
                                         have Fhp365 := sf_fr_tr Fhp333 (sf_fr_wider (W := [(1, 2, 3), (13, 7, 9), (100, 0, 5), (101, 0, 5), (156, 0, 11), (158, 0, 11), (159, 0, 11), (160, 0, 7), (161, 0, 7), (162, 0, 63)]) rfl fhp365)
                                         have h366 : sf_rd hp365 20 7 = some z12.toInt := (ehp365 _ _ (Or.inr (by omega))).trans h334
                                         have h367 : sf_rd hp365 a1 8 = some z327.toInt := (ehp365 _ _ (Or.inl (bs_nq (ra1.fr Fhp333) (bs_R.uq Hhp333 (g := 13) rfl) (by decide)))).trans h335
                                         have h368 : sf_rd hp365 7 3 = some z331.toInt := (ehp365 _ _ (Or.inl (by decide))).trans h336
                                         have h369 : sf_rd hp365 20 9 = some z332.toInt := (ehp365 _ _ (Or.inr (by omega))).trans rhp333
                                         refine Ev.ret rfl rfl ?_
                                         rw [← hQ302]
                                         refine (show Ev _ 37 ([some (.ref 7), some (.ref a1), some (.ref 20), some (.int x3), some (.int z1), some (.int k3)], [], (0, 0), hp365) _ from ?_)
                                         exact by
                                          refine Ev.step (j := 38) (s' := ([some (.ref 7), some (.ref a1), some (.ref 20), some (.int x3), some (.int z1), some (.int k3)], [.ref 20], (0, 0), hp365)) rfl rfl ?_
                                          refine Ev.step (j := 39) (s' := ([some (.ref 7), some (.ref a1), some (.ref 20), some (.int x3), some (.int z1), some (.int k3)], [.ref a1, .ref 20], (0, 0), hp365)) rfl rfl ?_
                                          refine bs_call (K := kq_X6_makeAndEat_8768d4) [.ref 20, .ref a1] [] rfl ct_X6_makeAndEat_8768d4 Hhp365 rfl rfl rfl (bs_rcv (g := 13) Hhp365 (bs_R.uq Hhp365 (g := 13) rfl) (by decide) rfl) rfl ?_ (sf_S_nil) fun r370 hp371 thp371 Hhp371 fhp371 ahp371 php371 => ?_
                                          · intro q k h
                                            match q, h with
                                            | 0, h => cases h; exact bs_jR (bs_R.uq Hhp365 (g := 13) rfl)
                                            | 1, h => cases h; exact bs_jR (ra1.fr Fhp365)
                                            | q + 2, h => cases h
                                          obtain rfl := ahp371.1 rfl
                                          have Fhp371 := sf_fr_tr Fhp365 (sf_fr_wider (W := [(1, 2, 3), (13, 7, 9), (100, 0, 5), (101, 0, 5), (156, 0, 11), (158, 0, 11), (159, 0, 11), (160, 0, 7), (161, 0, 7), (162, 0, 63)]) rfl fhp371)
                                          have h372 : sf_rd hp371 20 7 = some z12.toInt := (fhp371.2.2.1 _ (bs_R.uq Hhp365 (g := 13) (p := 20) rfl).1 _ (by rw [(bs_R.uq Hhp365 (g := 13) (p := 20) rfl).2]; rfl)).trans h366
                                          have h373 : sf_rd hp371 a1 8 = some z327.toInt := (fhp371.2.2.1 _ (ra1.fr Fhp365).1 _ (by rw [(ra1.fr Fhp365).2]; rfl)).trans h367
                                          have h374 : sf_rd hp371 7 3 = some z331.toInt := (fhp371.2.2.1 _ (bs_R.uq Hhp365 (g := 1) (p := 7) rfl).1 _ (by rw [(bs_R.uq Hhp365 (g := 1) (p := 7) rfl).2]; rfl)).trans h368
                                          have h375 : sf_rd hp371 20 9 = some z332.toInt := (fhp371.2.2.1 _ (bs_R.uq Hhp365 (g := 13) (p := 20) rfl).1 _ (by rw [(bs_R.uq Hhp365 (g := 13) (p := 20) rfl).2]; rfl)).trans h369
                                          have h376 : sf_rd hp371 20 8 = some z364.toInt := (fhp371.2.2.1 _ (bs_R.uq Hhp365 (g := 13) (p := 20) rfl).1 _ (by rw [(bs_R.uq Hhp365 (g := 13) (p := 20) rfl).2]; rfl)).trans rhp365
                                          refine (show Ev _ 42 ([some (.ref 7), some (.ref a1), some (.ref 20), some (.int x3), some (.int z1), some (.int k3)], [], (0, 0), hp371) _ from ?_)
                                          exact by
                                           refine Ev.step (j := 43) (s' := ([some (.ref 7), some (.ref a1), some (.ref 20), some (.int x3), some (.int z1), some (.int k3)], [.ref 20], (0, 0), hp371)) rfl rfl ?_
                                           refine Ev.step (j := 44) (s' := ([some (.ref 7), some (.ref a1), some (.ref 20), some (.int x3), some (.int z1), some (.int k3)], [.ref a1, .ref 20], (0, 0), hp371)) rfl rfl ?_
                                           refine bs_call (K := kq_X6_countApart_8768d4) [.ref 20, .ref a1] [] rfl ct_X6_countApart_8768d4 Hhp371 rfl rfl rfl (bs_rcv (g := 13) Hhp371 (bs_R.uq Hhp371 (g := 13) rfl) (by decide) rfl) rfl ?_ (sf_S_nil) fun r377 hp378 thp378 Hhp378 fhp378 ahp378 php378 => ?_
                                           · intro q k h
                                             match q, h with
                                             | 0, h => cases h; exact bs_jR (bs_R.uq Hhp371 (g := 13) rfl)
                                             | 1, h => cases h; exact bs_jR (ra1.fr Fhp371)
                                             | q + 2, h => cases h
                                           obtain rfl := ahp378.1 rfl
                                           have Fhp378 := sf_fr_tr Fhp371 (sf_fr_wider (W := [(1, 2, 3), (13, 7, 9), (100, 0, 5), (101, 0, 5), (156, 0, 11), (158, 0, 11), (159, 0, 11), (160, 0, 7), (161, 0, 7), (162, 0, 63)]) rfl fhp378)
                                           have h379 : sf_rd hp378 20 7 = some z12.toInt := (fhp378.2.2.1 _ (bs_R.uq Hhp371 (g := 13) (p := 20) rfl).1 _ (by rw [(bs_R.uq Hhp371 (g := 13) (p := 20) rfl).2]; rfl)).trans h372
                                           have h380 : sf_rd hp378 a1 8 = some z327.toInt := (fhp378.2.2.1 _ (ra1.fr Fhp371).1 _ (by rw [(ra1.fr Fhp371).2]; rfl)).trans h373
                                           have h381 : sf_rd hp378 7 3 = some z331.toInt := (fhp378.2.2.1 _ (bs_R.uq Hhp371 (g := 1) (p := 7) rfl).1 _ (by rw [(bs_R.uq Hhp371 (g := 1) (p := 7) rfl).2]; rfl)).trans h374
                                           have h382 : sf_rd hp378 20 9 = some z332.toInt := (fhp378.2.2.1 _ (bs_R.uq Hhp371 (g := 13) (p := 20) rfl).1 _ (by rw [(bs_R.uq Hhp371 (g := 13) (p := 20) rfl).2]; rfl)).trans h375
                                           have h383 : sf_rd hp378 20 8 = some z364.toInt := (fhp378.2.2.1 _ (bs_R.uq Hhp371 (g := 13) (p := 20) rfl).1 _ (by rw [(bs_R.uq Hhp371 (g := 13) (p := 20) rfl).2]; rfl)).trans h376
                                           refine (show Ev _ 47 ([some (.ref 7), some (.ref a1), some (.ref 20), some (.int x3), some (.int z1), some (.int k3)], [], (0, 0), hp378) _ from ?_)
                                           exact by
                                            refine Ev.step (j := 48) (s' := ([some (.ref 7), some (.ref a1), some (.ref 20), some (.int x3), some (.int z1), some (.int k3)], [.ref 20], (0, 0), hp378)) rfl rfl ?_
                                            refine Ev.step (j := 49) (s' := ([some (.ref 7), some (.ref a1), some (.ref 20), some (.int x3), some (.int z1), some (.int k3)], [.ref 20, .ref 20], (0, 0), hp378)) rfl rfl ?_
                                            refine bs_getI 13 rfl rfl rfl Hhp378 (bs_R.uq Hhp378 (g := 13) rfl) (by decide) rfl fun z384 hz384 lz384 gz384 => ?_
                                            have e385 : z384.toInt = z12.toInt := Option.some.inj (hz384.symm.trans h379)
                                            refine bs_lit (k := 1) rfl rfl fun z386 hz386 => ?_
                                            first | (refine bs_add rfl (by omega) (by omega) fun z387 hz387 => ?_) | (refine bs_any rfl fun z387 => ?_)
                                            have rz387 := n_range z387
                                            refine bs_putI (W := [(13, 7, 7)]) (g := 13) rfl rfl Hhp378 (bs_R.uq Hhp378 (g := 13) rfl) (by decide) rfl rfl rfl rfl (Or.inl rfl) (by omega) (by omega) fun hp388 Hhp388 fhp388 rhp388 ehp388 qhp388 nhp388 => ?_
                                            have Fhp388 := sf_fr_tr Fhp378 (sf_fr_wider (W := [(1, 2, 3), (13, 7, 9), (100, 0, 5), (101, 0, 5), (156, 0, 11), (158, 0, 11), (159, 0, 11), (160, 0, 7), (161, 0, 7), (162, 0, 63)]) rfl fhp388)
                                            have h389 : sf_rd hp388 a1 8 = some z327.toInt := (ehp388 _ _ (Or.inl (bs_nq (ra1.fr Fhp378) (bs_R.uq Hhp378 (g := 13) rfl) (by decide)))).trans h380
                                            have h390 : sf_rd hp388 7 3 = some z331.toInt := (ehp388 _ _ (Or.inl (by decide))).trans h381
                                            have h391 : sf_rd hp388 20 9 = some z332.toInt := (ehp388 _ _ (Or.inr (by omega))).trans h382
                                            have h392 : sf_rd hp388 20 8 = some z364.toInt := (ehp388 _ _ (Or.inr (by omega))).trans h383
                                            refine bs_iinc (1) rfl rfl rfl rfl (by omega) (by omega) fun z393 hz393 => ?_
                                            exact by
                                             refine (show Ev _ 60 ([some (.ref 7), some (.ref a1), some (.ref 20), some (.int x3), some (.int z1), some (.int z393)], [], (0, 0), hp388) _ from ?_)
                                             refine Ev.step (j := 9) (s' := ([some (.ref 7), some (.ref a1), some (.ref 20), some (.int x3), some (.int z1), some (.int z393)], [], (0, 0), hp388)) rfl rfl ?_
                                             refine ih6 (z393, hp388, thp378) ⟨Hhp388, Fhp388, (by first | omega | assumption), (by first | omega | assumption)⟩ ?_
                                             show (x3.toInt - z393.toInt).toNat < (x3.toInt - k3.toInt).toNat
                                             omega
                                  · skip
                                    obtain ⟨fv, xv, yv, hfv, hxv, hyv, f0, f1, f2⟩ := i326 k320.toInt.toNat (by omega) (by omega)
                                    refine Ev.step (j := 69) (s' := ([some (.ref 7), some (.ref a1), some (.ref 20), some (.int z307), some (.int k320)], [.ref 20], (0, 0), hp321)) rfl rfl ?_
                                    exact by
                                     refine bs_getU (g := 13) (g1 := 156) rfl rfl Hhp321 (bs_R.uq Hhp321 (g := 13) rfl) (by decide) rfl rfl ?_
                                     refine Ev.step (j := 74) (s' := ([some (.ref 7), some (.ref a1), some (.ref 20), some (.int z307), some (.int k320)], [.int k320, .ref 21], (0, 0), hp321)) rfl rfl ?_
                                     refine Ev.step (j := 75) (s' := ([some (.ref 7), some (.ref a1), some (.ref 20), some (.int z307), some (.int k320)], [.int z307, .int k320, .ref 21], (0, 0), hp321)) rfl rfl ?_
                                     refine Ev.inlS (L := L_X10_slotOf) (nL := 2) rfl rfl (Nat.le_of_ble_eq_true rfl) ?_
                                     generalize hQ394 : (fun (o : ab_O) => Ev _ _ _ _) = Q394
                                     refine (show Ev (ab_T L_X10_slotOf) 0 ([some (.int k320), some (.int z307)], [], (0, 0), hp321) Q394 from ?_)
                                     refine bs_lit (k := 2) rfl rfl fun z395 hz395 => ?_
                                     refine Ev.step (j := 2) (s' := ([some (.int k320), some (.int z307)], [.int k320, .int z395], (0, 0), hp321)) rfl rfl ?_
                                     refine bs_mul (2) rfl (Or.inl hz395) (by rw [hz395]; omega) (by rw [hz395]; omega) fun z396 hz396 => ?_
                                     rw [hz395] at hz396
                                     refine Ev.step (j := 4) (s' := ([some (.int k320), some (.int z307)], [.int z307, .int z396], (0, 0), hp321)) rfl rfl ?_
                                     first | (refine bs_add rfl (by omega) (by omega) fun z397 hz397 => ?_) | (refine bs_any rfl fun z397 => ?_)
                                     have rz397 := n_range z397
                                     refine Ev.ret rfl rfl ?_
                                     rw [← hQ394]
                                     refine (show Ev _ 78 ([some (.ref 7), some (.ref a1), some (.ref 20), some (.int z307), some (.int k320)], [.int z397, .ref 21], (0, 0), hp321) _ from ?_)
                                     exact by
                                      refine Ev.step (j := 79) (s' := ([some (.ref 7), some (.ref a1), some (.ref 20), some (.int z307), some (.int k320)], [.int z397, .ref 21, .int z397, .ref 21], (0, 0), hp321)) rfl rfl ?_
                                      refine bs_ld (g := 156) 0 11 (0, 999) rfl Hhp321 (bs_R.uq Hhp321 (g := 156) rfl) (by decide) rfl (by decide) (by decide) rfl (by decide) (by omega) (by omega) fun z398 hz398 lz398 gz398 => ?_
                                      dsimp only at lz398 gz398
                                      have exv : z398.toInt = xv := Option.some.inj ((bs_at hz398 (show _ = 2 * k320.toInt.toNat + fr by omega)).symm.trans hxv)
                                      refine Ev.step (j := 81) (s' := ([some (.ref 7), some (.ref a1), some (.ref 20), some (.int z307), some (.int k320)], [.ref 7, .int z398, .int z397, .ref 21], (0, 0), hp321)) rfl rfl ?_
                                      refine bs_getU (g := 1) (g1 := 100) rfl rfl Hhp321 (bs_R.uq Hhp321 (g := 1) rfl) (by decide) rfl rfl ?_
                                      refine Ev.step (j := 86) (s' := ([some (.ref 7), some (.ref a1), some (.ref 20), some (.int z307), some (.int k320)], [.int k320, .ref 8, .int z398, .int z397, .ref 21], (0, 0), hp321)) rfl rfl ?_
                                      refine bs_ld (g := 100) 0 5 (-2147483648, 2147483647) rfl Hhp321 (bs_R.uq Hhp321 (g := 100) rfl) (by decide) rfl (by decide) (by decide) rfl (by decide) (by omega) (by omega) fun z399 hz399 lz399 gz399 => ?_
                                      dsimp only at lz399 gz399
                                      have e400 : z399.toInt = fv := Option.some.inj (hz399.symm.trans hfv)
                                      first | (refine bs_sub rfl (by omega) (by omega) fun z401 hz401 => ?_) | (refine bs_any rfl fun z401 => ?_)
                                      have rz401 := n_range z401
                                      refine bs_st (W := [(156, 0, 11)]) (g := 156) 0 11 (0, 999) rfl Hhp321 (bs_R.uq Hhp321 (g := 156) rfl) (by decide) rfl rfl (by decide) rfl rfl (by omega) (by omega) (by dsimp only; omega) (by dsimp only; omega) fun hp402 Hhp402 fhp402 rhp402 ehp402 qhp402 nhp402 => ?_
                                      have Fhp402 := sf_fr_tr Fhp321 (sf_fr_wider (W := [(1, 2, 3), (13, 7, 9), (100, 0, 5), (101, 0, 5), (156, 0, 11), (158, 0, 11), (159, 0, 11), (160, 0, 7), (161, 0, 7), (162, 0, 63)]) rfl fhp402)
                                      have h403 : sf_rd hp402 20 7 = some z12.toInt := (ehp402 _ _ (Or.inl (by decide))).trans i324
                                      have h404 : sf_rd hp402 a1 8 = some z327.toInt := (ehp402 _ _ (Or.inl (bs_nq (ra1.fr Fhp321) (bs_R.uq Hhp321 (g := 156) rfl) (by decide)))).trans hz327
                                      have h405 : sf_rd hp402 8 k320.toInt.toNat = some fv := (ehp402 _ _ (Or.inl (by decide))).trans hfv
                                      refine Ev.step (j := 90) (s' := ([some (.ref 7), some (.ref a1), some (.ref 20), some (.int z307), some (.int k320)], [.ref 20], (0, 0), hp402)) rfl rfl ?_
                                      exact by
                                       refine bs_getU (g := 13) (g1 := 156) rfl rfl Hhp402 (bs_R.uq Hhp402 (g := 13) rfl) (by decide) rfl rfl ?_
                                       refine Ev.step (j := 95) (s' := ([some (.ref 7), some (.ref a1), some (.ref 20), some (.int z307), some (.int k320)], [.int k320, .ref 21], (0, 0), hp402)) rfl rfl ?_
                                       refine bs_lit (k := 1) rfl rfl fun z406 hz406 => ?_
                                       refine Ev.step (j := 97) (s' := ([some (.ref 7), some (.ref a1), some (.ref 20), some (.int z307), some (.int k320)], [.int z307, .int z406, .int k320, .ref 21], (0, 0), hp402)) rfl rfl ?_
                                       first | (refine bs_sub rfl (by omega) (by omega) fun z407 hz407 => ?_) | (refine bs_any rfl fun z407 => ?_)
                                       have rz407 := n_range z407
                                       refine Ev.inlS (L := L_X10_slotOf) (nL := 2) rfl rfl (Nat.le_of_ble_eq_true rfl) ?_
                                       generalize hQ408 : (fun (o : ab_O) => Ev _ _ _ _) = Q408
                                       refine (show Ev (ab_T L_X10_slotOf) 0 ([some (.int k320), some (.int z407)], [], (0, 0), hp402) Q408 from ?_)
                                       exact by
                                        refine bs_lit (k := 2) rfl rfl fun z409 hz409 => ?_
                                        refine Ev.step (j := 2) (s' := ([some (.int k320), some (.int z407)], [.int k320, .int z409], (0, 0), hp402)) rfl rfl ?_
                                        refine bs_mul (2) rfl (Or.inl hz409) (by rw [hz409]; omega) (by rw [hz409]; omega) fun z410 hz410 => ?_
                                        rw [hz409] at hz410
                                        refine Ev.step (j := 4) (s' := ([some (.int k320), some (.int z407)], [.int z407, .int z410], (0, 0), hp402)) rfl rfl ?_
                                        first | (refine bs_add rfl (by omega) (by omega) fun z411 hz411 => ?_) | (refine bs_any rfl fun z411 => ?_)
                                        have rz411 := n_range z411
                                        refine Ev.ret rfl rfl ?_
                                        rw [← hQ408]
                                        refine (show Ev _ 101 ([some (.ref 7), some (.ref a1), some (.ref 20), some (.int z307), some (.int k320)], [.int z411, .ref 21], (0, 0), hp402) _ from ?_)
                                        exact by
                                         refine Ev.step (j := 102) (s' := ([some (.ref 7), some (.ref a1), some (.ref 20), some (.int z307), some (.int k320)], [.int z411, .ref 21, .int z411, .ref 21], (0, 0), hp402)) rfl rfl ?_
                                         refine bs_ld (g := 156) 0 11 (0, 999) rfl Hhp402 (bs_R.uq Hhp402 (g := 156) rfl) (by decide) rfl (by decide) (by decide) rfl (by decide) (by omega) (by omega) fun z412 hz412 lz412 gz412 => ?_
                                         dsimp only at lz412 gz412
                                         have eyv : z412.toInt = yv := Option.some.inj ((bs_at hz412 (show _ = 2 * k320.toInt.toNat + 1 - fr by omega)).symm.trans ((ehp402 _ _ (Or.inr (by omega))).trans hyv))
                                         refine Ev.step (j := 104) (s' := ([some (.ref 7), some (.ref a1), some (.ref 20), some (.int z307), some (.int k320)], [.ref 7, .int z412, .int z411, .ref 21], (0, 0), hp402)) rfl rfl ?_
                                         refine bs_getU (g := 1) (g1 := 100) rfl rfl Hhp402 (bs_R.uq Hhp402 (g := 1) rfl) (by decide) rfl rfl ?_
                                         refine Ev.step (j := 109) (s' := ([some (.ref 7), some (.ref a1), some (.ref 20), some (.int z307), some (.int k320)], [.int k320, .ref 8, .int z412, .int z411, .ref 21], (0, 0), hp402)) rfl rfl ?_
                                         refine bs_ld (g := 100) 0 5 (-2147483648, 2147483647) rfl Hhp402 (bs_R.uq Hhp402 (g := 100) rfl) (by decide) rfl (by decide) (by decide) rfl (by decide) (by omega) (by omega) fun z413 hz413 lz413 gz413 => ?_
                                         dsimp only at lz413 gz413
                                         have e414 : z413.toInt = fv := Option.some.inj (hz413.symm.trans h405)
                                         first | (refine bs_add rfl (by omega) (by omega) fun z415 hz415 => ?_) | (refine bs_any rfl fun z415 => ?_)
                                         have rz415 := n_range z415
                                         refine bs_st (W := [(156, 0, 11)]) (g := 156) 0 11 (0, 999) rfl Hhp402 (bs_R.uq Hhp402 (g := 156) rfl) (by decide) rfl rfl (by decide) rfl rfl (by omega) (by omega) (by dsimp only; omega) (by dsimp only; omega) fun hp416 Hhp416 fhp416 rhp416 ehp416 qhp416 nhp416 => ?_
                                         have Fhp416 := sf_fr_tr Fhp402 (sf_fr_wider (W := [(1, 2, 3), (13, 7, 9), (100, 0, 5), (101, 0, 5), (156, 0, 11), (158, 0, 11), (159, 0, 11), (160, 0, 7), (161, 0, 7), (162, 0, 63)]) rfl fhp416)
                                         have h417 : sf_rd hp416 20 7 = some z12.toInt := (ehp416 _ _ (Or.inl (by decide))).trans h403
                                         have h418 : sf_rd hp416 a1 8 = some z327.toInt := (ehp416 _ _ (Or.inl (bs_nq (ra1.fr Fhp402) (bs_R.uq Hhp402 (g := 156) rfl) (by decide)))).trans h404
                                         have h419 : sf_rd hp416 8 k320.toInt.toNat = some fv := (ehp416 _ _ (Or.inl (by decide))).trans h405
                                         refine Ev.step (j := 113) (s' := ([some (.ref 7), some (.ref a1), some (.ref 20), some (.int z307), some (.int k320)], [.ref 20], (0, 0), hp416)) rfl rfl ?_
                                         exact by
                                          refine bs_getU (g := 13) (g1 := 159) rfl rfl Hhp416 (bs_R.uq Hhp416 (g := 13) rfl) (by decide) rfl rfl ?_
                                          refine Ev.step (j := 118) (s' := ([some (.ref 7), some (.ref a1), some (.ref 20), some (.int z307), some (.int k320)], [.int k320, .ref 24], (0, 0), hp416)) rfl rfl ?_
                                          refine bs_lit (k := 1) rfl rfl fun z420 hz420 => ?_
                                          refine Ev.step (j := 120) (s' := ([some (.ref 7), some (.ref a1), some (.ref 20), some (.int z307), some (.int k320)], [.int z307, .int z420, .int k320, .ref 24], (0, 0), hp416)) rfl rfl ?_
                                          first | (refine bs_sub rfl (by omega) (by omega) fun z421 hz421 => ?_) | (refine bs_any rfl fun z421 => ?_)
                                          have rz421 := n_range z421
                                          refine Ev.inlS (L := L_X10_slotOf) (nL := 2) rfl rfl (Nat.le_of_ble_eq_true rfl) ?_
                                          generalize hQ422 : (fun (o : ab_O) => Ev _ _ _ _) = Q422
                                          refine (show Ev (ab_T L_X10_slotOf) 0 ([some (.int k320), some (.int z421)], [], (0, 0), hp416) Q422 from ?_)
                                          exact by
                                           refine bs_lit (k := 2) rfl rfl fun z423 hz423 => ?_
                                           refine Ev.step (j := 2) (s' := ([some (.int k320), some (.int z421)], [.int k320, .int z423], (0, 0), hp416)) rfl rfl ?_
                                           refine bs_mul (2) rfl (Or.inl hz423) (by rw [hz423]; omega) (by rw [hz423]; omega) fun z424 hz424 => ?_
                                           rw [hz423] at hz424
                                           refine Ev.step (j := 4) (s' := ([some (.int k320), some (.int z421)], [.int z421, .int z424], (0, 0), hp416)) rfl rfl ?_
                                           first | (refine bs_add rfl (by omega) (by omega) fun z425 hz425 => ?_) | (refine bs_any rfl fun z425 => ?_)
                                           have rz425 := n_range z425
                                           refine Ev.ret rfl rfl ?_
                                           rw [← hQ422]
                                           refine (show Ev _ 124 ([some (.ref 7), some (.ref a1), some (.ref 20), some (.int z307), some (.int k320)], [.int z425, .ref 24], (0, 0), hp416) _ from ?_)
                                           exact by
                                            refine Ev.step (j := 125) (s' := ([some (.ref 7), some (.ref a1), some (.ref 20), some (.int z307), some (.int k320)], [.int z425, .ref 24, .int z425, .ref 24], (0, 0), hp416)) rfl rfl ?_
                                            refine bs_ld (g := 159) 0 11 (-2147483648, 2147483647) rfl Hhp416 (bs_R.uq Hhp416 (g := 159) rfl) (by decide) rfl (by decide) (by decide) rfl (by decide) (by omega) (by omega) fun z426 hz426 lz426 gz426 => ?_
                                            dsimp only at lz426 gz426
                                            refine Ev.step (j := 127) (s' := ([some (.ref 7), some (.ref a1), some (.ref 20), some (.int z307), some (.int k320)], [.ref 7, .int z426, .int z425, .ref 24], (0, 0), hp416)) rfl rfl ?_
                                            refine bs_getU (g := 1) (g1 := 100) rfl rfl Hhp416 (bs_R.uq Hhp416 (g := 1) rfl) (by decide) rfl rfl ?_
                                            refine Ev.step (j := 132) (s' := ([some (.ref 7), some (.ref a1), some (.ref 20), some (.int z307), some (.int k320)], [.int k320, .ref 8, .int z426, .int z425, .ref 24], (0, 0), hp416)) rfl rfl ?_
                                            refine bs_ld (g := 100) 0 5 (-2147483648, 2147483647) rfl Hhp416 (bs_R.uq Hhp416 (g := 100) rfl) (by decide) rfl (by decide) (by decide) rfl (by decide) (by omega) (by omega) fun z427 hz427 lz427 gz427 => ?_
                                            dsimp only at lz427 gz427
                                            have e428 : z427.toInt = fv := Option.some.inj (hz427.symm.trans h419)
                                            first | (refine bs_add rfl (by omega) (by omega) fun z429 hz429 => ?_) | (refine bs_any rfl fun z429 => ?_)
                                            have rz429 := n_range z429
                                            refine bs_st (W := [(159, 0, 11)]) (g := 159) 0 11 (-2147483648, 2147483647) rfl Hhp416 (bs_R.uq Hhp416 (g := 159) rfl) (by decide) rfl rfl (by decide) rfl rfl (by omega) (by omega) (by dsimp only; omega) (by dsimp only; omega) fun hp430 Hhp430 fhp430 rhp430 ehp430 qhp430 nhp430 => ?_
                                            have Fhp430 := sf_fr_tr Fhp416 (sf_fr_wider (W := [(1, 2, 3), (13, 7, 9), (100, 0, 5), (101, 0, 5), (156, 0, 11), (158, 0, 11), (159, 0, 11), (160, 0, 7), (161, 0, 7), (162, 0, 63)]) rfl fhp430)
                                            have h431 : sf_rd hp430 20 7 = some z12.toInt := (ehp430 _ _ (Or.inl (by decide))).trans h417
                                            have h432 : sf_rd hp430 a1 8 = some z327.toInt := (ehp430 _ _ (Or.inl (bs_nq (ra1.fr Fhp416) (bs_R.uq Hhp416 (g := 159) rfl) (by decide)))).trans h418
                                            have h433 : sf_rd hp430 8 k320.toInt.toNat = some fv := (ehp430 _ _ (Or.inl (by decide))).trans h419
                                            have h434 : sf_rd hp430 21 z411.toInt.toNat = some z415.toInt := (ehp430 _ _ (Or.inl (by decide))).trans rhp416
                                            refine bs_iinc (1) rfl rfl rfl rfl (by omega) (by omega) fun z435 hz435 => ?_
                                            exact by
                                             refine (show Ev _ 138 ([some (.ref 7), some (.ref a1), some (.ref 20), some (.int z307), some (.int z435)], [], (0, 0), hp430) _ from ?_)
                                             refine Ev.step (j := 59) (s' := ([some (.ref 7), some (.ref a1), some (.ref 20), some (.int z307), some (.int z435)], [], (0, 0), hp430)) rfl rfl ?_
                                             have FR3 : ∀ q : Nat, z435.toInt ≤ (q : Int) → (q : Int) < G → fr_ok hp430 21 fr q := fun q h1 h2 => fr_ok_same (i326 q (by omega) h2) ((ehp430 _ _ (Or.inl (by decide))).trans ((ehp416 _ _ (Or.inl (by decide))).trans (ehp402 _ _ (Or.inl (by decide))))) ((ehp430 _ _ (Or.inl (by decide))).trans ((ehp416 _ _ (Or.inr (by omega))).trans (ehp402 _ _ (Or.inr (by omega))))) ((ehp430 _ _ (Or.inl (by decide))).trans ((ehp416 _ _ (Or.inr (by omega))).trans (ehp402 _ _ (Or.inr (by omega)))))
                                             refine ih323 (z435, hp430, t322) ⟨Hhp430, Fhp430, h431, (by first | omega | assumption), (by first | exact FR3 | exact fun q _ hq => i315 q hq)⟩ ?_
                                             show (6 - z435.toInt).toNat < (6 - k320.toInt).toNat
                                             omega
                               · skip
                                 refine Ev.step (j := 18) (s' := ([some (.ref 7), some (.ref a1), some (.ref 20), some (.int z307), some (.int k309)], [.ref 7], (0, 0), hp310)) rfl rfl ?_
                                 exact by
                                  refine bs_getI 1 rfl rfl rfl Hhp310 (bs_R.uq Hhp310 (g := 1) rfl) (by decide) rfl fun z436 hz436 lz436 gz436 => ?_
                                  refine bs_lit (k := 1) rfl rfl fun z437 hz437 => ?_
                                  refine Ev.step (j := 24) (s' := ([some (.ref 7), some (.ref a1), some (.ref 20), some (.int z307), some (.int k309)], [.int k309, .int z437, .int z436], (0, 0), hp310)) rfl rfl ?_
                                  refine bs_any rfl fun z438 => ?_
                                  have rz438 := n_range z438
                                  refine bs_any rfl fun z439 => ?_
                                  have rz439 := n_range z439
                                  refine bs_ifeq rfl (fun c440 => ?_) (fun c440 => ?_)
                                  · skip
                                    have c441 : z439.toInt = 0 := by omega
                                    refine bs_iinc (1) rfl rfl rfl rfl (by omega) (by omega) fun z442 hz442 => ?_
                                    exact by
                                     refine (show Ev _ 53 ([some (.ref 7), some (.ref a1), some (.ref 20), some (.int z307), some (.int z442)], [], (0, 0), hp310) _ from ?_)
                                     refine Ev.step (j := 8) (s' := ([some (.ref 7), some (.ref a1), some (.ref 20), some (.int z307), some (.int z442)], [], (0, 0), hp310)) rfl rfl ?_
                                     have FR2 : ∀ q : Nat, (q : Int) < G → fr_ok hp310 21 fr q := fun q hq => fr_ok_same (i315 q hq) rfl rfl rfl
                                     refine ih312 (z442, hp310, t311) ⟨Hhp310, Fhp310, i313, (by first | omega | assumption), (by first | exact FR2 | exact FR)⟩ ?_
                                     show (8 - z442.toInt).toNat < (8 - k309.toInt).toNat
                                     omega
                                  · skip
                                    refine Ev.step (j := 30) (s' := ([some (.ref 7), some (.ref a1), some (.ref 20), some (.int z307), some (.int k309)], [.ref 20], (0, 0), hp310)) rfl rfl ?_
                                    exact by
                                     refine bs_getU (g := 13) (g1 := 160) rfl rfl Hhp310 (bs_R.uq Hhp310 (g := 13) rfl) (by decide) rfl rfl ?_
                                     refine Ev.step (j := 35) (s' := ([some (.ref 7), some (.ref a1), some (.ref 20), some (.int z307), some (.int k309)], [.int k309, .ref 25], (0, 0), hp310)) rfl rfl ?_
                                     refine bs_lit (k := 1) rfl rfl fun z443 hz443 => ?_
                                     refine Ev.step (j := 37) (s' := ([some (.ref 7), some (.ref a1), some (.ref 20), some (.int z307), some (.int k309)], [.int z307, .int z443, .int k309, .ref 25], (0, 0), hp310)) rfl rfl ?_
                                     first | (refine bs_sub rfl (by omega) (by omega) fun z444 hz444 => ?_) | (refine bs_any rfl fun z444 => ?_)
                                     have rz444 := n_range z444
                                     refine bs_st (W := [(160, 0, 7)]) (g := 160) 0 7 (-2147483648, 2147483647) rfl Hhp310 (bs_R.uq Hhp310 (g := 160) rfl) (by decide) rfl rfl (by decide) rfl rfl (by omega) (by omega) (by dsimp only; omega) (by dsimp only; omega) fun hp445 Hhp445 fhp445 rhp445 ehp445 qhp445 nhp445 => ?_
                                     have Fhp445 := sf_fr_tr Fhp310 (sf_fr_wider (W := [(1, 2, 3), (13, 7, 9), (100, 0, 5), (101, 0, 5), (156, 0, 11), (158, 0, 11), (159, 0, 11), (160, 0, 7), (161, 0, 7), (162, 0, 63)]) rfl fhp445)
                                     have h446 : sf_rd hp445 20 7 = some z12.toInt := (ehp445 _ _ (Or.inl (by decide))).trans i313
                                     have h447 : sf_rd hp445 a1 9 = some z316.toInt := (ehp445 _ _ (Or.inl (bs_nq (ra1.fr Fhp310) (bs_R.uq Hhp310 (g := 160) rfl) (by decide)))).trans hz316
                                     have h448 : sf_rd hp445 7 2 = some z436.toInt := (ehp445 _ _ (Or.inl (by decide))).trans hz436
                                     refine Ev.step (j := 40) (s' := ([some (.ref 7), some (.ref a1), some (.ref 20), some (.int z307), some (.int k309)], [.ref 20], (0, 0), hp445)) rfl rfl ?_
                                     exact by
                                      refine bs_getU (g := 13) (g1 := 161) rfl rfl Hhp445 (bs_R.uq Hhp445 (g := 13) rfl) (by decide) rfl rfl ?_
                                      refine Ev.step (j := 45) (s' := ([some (.ref 7), some (.ref a1), some (.ref 20), some (.int z307), some (.int k309)], [.int k309, .ref 26], (0, 0), hp445)) rfl rfl ?_
                                      refine Ev.step (j := 46) (s' := ([some (.ref 7), some (.ref a1), some (.ref 20), some (.int z307), some (.int k309)], [.int k309, .ref 26, .int k309, .ref 26], (0, 0), hp445)) rfl rfl ?_
                                      refine bs_ld (g := 161) 0 7 (-2147483648, 2147483647) rfl Hhp445 (bs_R.uq Hhp445 (g := 161) rfl) (by decide) rfl (by decide) (by decide) rfl (by decide) (by omega) (by omega) fun z449 hz449 lz449 gz449 => ?_
                                      dsimp only at lz449 gz449
                                      refine bs_lit (k := 1) rfl rfl fun z450 hz450 => ?_
                                      first | (refine bs_add rfl (by omega) (by omega) fun z451 hz451 => ?_) | (refine bs_any rfl fun z451 => ?_)
                                      have rz451 := n_range z451
                                      refine bs_st (W := [(161, 0, 7)]) (g := 161) 0 7 (-2147483648, 2147483647) rfl Hhp445 (bs_R.uq Hhp445 (g := 161) rfl) (by decide) rfl rfl (by decide) rfl rfl (by omega) (by omega) (by dsimp only; omega) (by dsimp only; omega) fun hp452 Hhp452 fhp452 rhp452 ehp452 qhp452 nhp452 => ?_
                                      have Fhp452 := sf_fr_tr Fhp445 (sf_fr_wider (W := [(1, 2, 3), (13, 7, 9), (100, 0, 5), (101, 0, 5), (156, 0, 11), (158, 0, 11), (159, 0, 11), (160, 0, 7), (161, 0, 7), (162, 0, 63)]) rfl fhp452)
                                      have h453 : sf_rd hp452 20 7 = some z12.toInt := (ehp452 _ _ (Or.inl (by decide))).trans h446
                                      have h454 : sf_rd hp452 a1 9 = some z316.toInt := (ehp452 _ _ (Or.inl (bs_nq (ra1.fr Fhp445) (bs_R.uq Hhp445 (g := 161) rfl) (by decide)))).trans h447
                                      have h455 : sf_rd hp452 7 2 = some z436.toInt := (ehp452 _ _ (Or.inl (by decide))).trans h448
                                      have h456 : sf_rd hp452 25 k309.toInt.toNat = some z444.toInt := (ehp452 _ _ (Or.inl (by decide))).trans rhp445
                                      refine bs_iinc (1) rfl rfl rfl rfl (by omega) (by omega) fun z457 hz457 => ?_
                                      exact by
                                       refine (show Ev _ 53 ([some (.ref 7), some (.ref a1), some (.ref 20), some (.int z307), some (.int z457)], [], (0, 0), hp452) _ from ?_)
                                       refine Ev.step (j := 8) (s' := ([some (.ref 7), some (.ref a1), some (.ref 20), some (.int z307), some (.int z457)], [], (0, 0), hp452)) rfl rfl ?_
                                       have FR2 : ∀ q : Nat, (q : Int) < G → fr_ok hp452 21 fr q := fun q hq => fr_ok_same (i315 q hq) ((ehp452 _ _ (Or.inl (by decide))).trans (ehp445 _ _ (Or.inl (by decide)))) ((ehp452 _ _ (Or.inl (by decide))).trans (ehp445 _ _ (Or.inl (by decide)))) ((ehp452 _ _ (Or.inl (by decide))).trans (ehp445 _ _ (Or.inl (by decide))))
                                       refine ih312 (z457, hp452, t311) ⟨Hhp452, Fhp452, h453, (by first | omega | assumption), (by first | exact FR2 | exact FR)⟩ ?_
                                       show (8 - z457.toInt).toNat < (8 - k309.toInt).toNat
                                       omega
                          · skip
                            refine Ev.step (j := 128) (s' := ([some (.ref 7), some (.ref a1), some (.ref 20), some (.int z23), some (.int z28), some (.int z40), some (.int k291), o294], [.ref 20], (0, 0), hp292)) rfl rfl ?_
                            exact by
                             refine Ev.step (j := 129) (s' := ([some (.ref 7), some (.ref a1), some (.ref 20), some (.int z23), some (.int z28), some (.int z40), some (.int k291), o294], [.ref a1, .ref 20], (0, 0), hp292)) rfl rfl ?_
                             refine Ev.step (j := 131) (s' := ([some (.ref 7), some (.ref a1), some (.ref 20), some (.int z23), some (.int z28), some (.int z40), some (.int k291), o294], [.int k291, .ref a1, .ref 20], (0, 0), hp292)) rfl rfl ?_
                             refine bs_lit (k := 1) rfl rfl fun z458 hz458 => ?_
                             refine Ev.step (j := 133) (s' := ([some (.ref 7), some (.ref a1), some (.ref 20), some (.int z23), some (.int z28), some (.int z40), some (.int k291), o294], [.int z23, .int z458, .int k291, .ref a1, .ref 20], (0, 0), hp292)) rfl rfl ?_
                             first | (refine bs_sub rfl (by omega) (by omega) fun z459 hz459 => ?_) | (refine bs_any rfl fun z459 => ?_)
                             have rz459 := n_range z459
                             refine Ev.inlS (L := L_X10_slotOf) (nL := 2) rfl rfl (Nat.le_of_ble_eq_true rfl) ?_
                             generalize hQ460 : (fun (o : ab_O) => Ev _ _ _ _) = Q460
                             refine (show Ev (ab_T L_X10_slotOf) 0 ([some (.int k291), some (.int z459)], [], (0, 0), hp292) Q460 from ?_)
                             exact by
                              refine bs_lit (k := 2) rfl rfl fun z461 hz461 => ?_
                              refine Ev.step (j := 2) (s' := ([some (.int k291), some (.int z459)], [.int k291, .int z461], (0, 0), hp292)) rfl rfl ?_
                              refine bs_mul (2) rfl (Or.inl hz461) (by rw [hz461]; omega) (by rw [hz461]; omega) fun z462 hz462 => ?_
                              rw [hz461] at hz462
                              refine Ev.step (j := 4) (s' := ([some (.int k291), some (.int z459)], [.int z459, .int z462], (0, 0), hp292)) rfl rfl ?_
                              first | (refine bs_add rfl (by omega) (by omega) fun z463 hz463 => ?_) | (refine bs_any rfl fun z463 => ?_)
                              have rz463 := n_range z463
                              refine Ev.ret rfl rfl ?_
                              rw [← hQ460]
                              refine (show Ev _ 137 ([some (.ref 7), some (.ref a1), some (.ref 20), some (.int z23), some (.int z28), some (.int z40), some (.int k291), o294], [.int z463, .ref a1, .ref 20], (0, 0), hp292) _ from ?_)
                              exact by
                               refine Ev.inl (L := (L_X6_lackAt Z_X7_amountOf)) (nL := 3) rfl (bs_rcv (g := 13) Hhp292 (bs_R.uq Hhp292 (g := 13) rfl) (by decide) rfl) rfl (Nat.le_of_ble_eq_true rfl) ?_
                               generalize hQ464 : (fun (o : ab_O) => Ev _ _ _ _) = Q464
                               refine (show Ev (ab_T (L_X6_lackAt Z_X7_amountOf)) 0 ([some (.ref 20), some (.ref a1), some (.int z463)], [], (0, 0), hp292) Q464 from ?_)
                               refine bs_lit (k := 0) rfl rfl fun z465 hz465 => ?_
                               refine Ev.step (j := 2) (s' := ([some (.ref 20), some (.ref a1), some (.int z463)], [.ref a1, .int z465], (0, 0), hp292)) rfl rfl ?_
                               refine bs_lit (k := 1) rfl rfl fun z466 hz466 => ?_
                               refine Ev.step (j := 4) (s' := ([some (.ref 20), some (.ref a1), some (.int z463)], [.int z463, .int z466, .ref a1, .int z465], (0, 0), hp292)) rfl rfl ?_
                               refine Ev.inl (L := L_X7_amountOf) (nL := 3) rfl (bs_rcv (g := 7) Hhp292 (ra1.fr Fhp292) (by decide) rfl) rfl (Nat.le_of_ble_eq_true rfl) ?_
                               generalize hQ467 : (fun (o : ab_O) => Ev _ _ _ _) = Q467
                               refine (show Ev (ab_T L_X7_amountOf) 0 ([some (.ref a1), some (.int z466), some (.int z463)], [], (0, 0), hp292) Q467 from ?_)
                               exact by
                                refine Ev.step (j := 1) (s' := ([some (.ref a1), some (.int z466), some (.int z463)], [.ref a1], (0, 0), hp292)) rfl rfl ?_
                                refine bs_getR (g := 7) (g1 := 119) rfl rfl Hhp292 (ra1.fr Fhp292) (by decide) rfl fun b468 qb468 rb468 => ?_
                                refine Ev.step (j := 5) (s' := ([some (.ref a1), some (.int z466), some (.int z463)], [.int z466, .ref b468], (0, 0), hp292)) rfl rfl ?_
                                refine bs_lit (k := 12) rfl rfl fun z469 hz469 => ?_
                                refine bs_mul (12) rfl (Or.inr hz469) (by rw [hz469]; omega) (by rw [hz469]; omega) fun z470 hz470 => ?_
                                rw [hz469] at hz470
                                refine Ev.step (j := 9) (s' := ([some (.ref a1), some (.int z466), some (.int z463)], [.int z463, .int z470, .ref b468], (0, 0), hp292)) rfl rfl ?_
                                first | (refine bs_add rfl (by omega) (by omega) fun z471 hz471 => ?_) | (refine bs_any rfl fun z471 => ?_)
                                have rz471 := n_range z471
                                refine bs_ld (g := 119) 12 23 (0, 250) rfl Hhp292 rb468 (by decide) rfl (by decide) (by decide) rfl (by decide) (by omega) (by omega) fun z472 hz472 lz472 gz472 => ?_
                                dsimp only at lz472 gz472
                                refine Ev.ret rfl rfl ?_
                                rw [← hQ467]
                                refine (show Ev _ 7 ([some (.ref 20), some (.ref a1), some (.int z463)], [.int z472, .int z465], (0, 0), hp292) _ from ?_)
                                exact by
                                 refine Ev.step (j := 8) (s' := ([some (.ref 20), some (.ref a1), some (.int z463)], [.ref 20, .int z472, .int z465], (0, 0), hp292)) rfl rfl ?_
                                 refine bs_getU (g := 13) (g1 := 156) rfl rfl Hhp292 (bs_R.uq Hhp292 (g := 13) rfl) (by decide) rfl rfl ?_
                                 refine Ev.step (j := 12) (s' := ([some (.ref 20), some (.ref a1), some (.int z463)], [.int z463, .ref 21, .int z472, .int z465], (0, 0), hp292)) rfl rfl ?_
                                 refine bs_ld (g := 156) 0 11 (0, 999) rfl Hhp292 (bs_R.uq Hhp292 (g := 156) rfl) (by decide) rfl (by decide) (by decide) rfl (by decide) (by omega) (by omega) fun z473 hz473 lz473 gz473 => ?_
                                 dsimp only at lz473 gz473
                                 first | (refine bs_sub rfl (by omega) (by omega) fun z474 hz474 => ?_) | (refine bs_any rfl fun z474 => ?_)
                                 have rz474 := n_range z474
                                 refine bs_max rfl rfl fun z475 hz475 => ?_
                                 refine Ev.ret rfl rfl ?_
                                 rw [← hQ464]
                                 refine (show Ev _ 140 ([some (.ref 7), some (.ref a1), some (.ref 20), some (.int z23), some (.int z28), some (.int z40), some (.int k291), o294], [.int z475], (0, 0), hp292) _ from ?_)
                                 exact by
                                  refine Ev.step (j := 142) (s' := ([some (.ref 7), some (.ref a1), some (.ref 20), some (.int z23), some (.int z28), some (.int z40), some (.int k291), some (.int z475)], [], (0, 0), hp292)) rfl rfl ?_
                                  refine Ev.step (j := 143) (s' := ([some (.ref 7), some (.ref a1), some (.ref 20), some (.int z23), some (.int z28), some (.int z40), some (.int k291), some (.int z475)], [.ref 7], (0, 0), hp292)) rfl rfl ?_
                                  refine bs_getU (g := 1) (g1 := 101) rfl rfl Hhp292 (bs_R.uq Hhp292 (g := 1) rfl) (by decide) rfl rfl ?_
                                  refine Ev.step (j := 148) (s' := ([some (.ref 7), some (.ref a1), some (.ref 20), some (.int z23), some (.int z28), some (.int z40), some (.int k291), some (.int z475)], [.int k291, .ref 9], (0, 0), hp292)) rfl rfl ?_
                                  refine Ev.step (j := 150) (s' := ([some (.ref 7), some (.ref a1), some (.ref 20), some (.int z23), some (.int z28), some (.int z40), some (.int k291), some (.int z475)], [.int z28, .int k291, .ref 9], (0, 0), hp292)) rfl rfl ?_
                                  refine Ev.step (j := 151) (s' := ([some (.ref 7), some (.ref a1), some (.ref 20), some (.int z23), some (.int z28), some (.int z40), some (.int k291), some (.int z475)], [.ref 7, .int z28, .int k291, .ref 9], (0, 0), hp292)) rfl rfl ?_
                                  refine bs_getI 1 rfl rfl rfl Hhp292 (bs_R.uq Hhp292 (g := 1) rfl) (by decide) rfl fun z476 hz476 lz476 gz476 => ?_
                                  first | (refine bs_sub rfl (by omega) (by omega) fun z477 hz477 => ?_) | (refine bs_any rfl fun z477 => ?_)
                                  have rz477 := n_range z477
                                  refine bs_st (W := [(101, 0, 5)]) (g := 101) 0 5 (-2147483648, 2147483647) rfl Hhp292 (bs_R.uq Hhp292 (g := 101) rfl) (by decide) rfl rfl (by decide) rfl rfl (by omega) (by omega) (by dsimp only; omega) (by dsimp only; omega) fun hp478 Hhp478 fhp478 rhp478 ehp478 qhp478 nhp478 => ?_
                                  have Fhp478 := sf_fr_tr Fhp292 (sf_fr_wider (W := [(1, 2, 3), (13, 7, 9), (100, 0, 5), (101, 0, 5), (156, 0, 11), (158, 0, 11), (159, 0, 11), (160, 0, 7), (161, 0, 7), (162, 0, 63)]) rfl fhp478)
                                  have h479 : sf_rd hp478 20 7 = some z12.toInt := (ehp478 _ _ (Or.inl (by decide))).trans i296
                                  have h480 : sf_rd hp478 a1 8 = some z299.toInt := (ehp478 _ _ (Or.inl (bs_nq (ra1.fr Fhp292) (bs_R.uq Hhp292 (g := 101) rfl) (by decide)))).trans hz299
                                  have h481 : sf_rd hp478 b468 z471.toInt.toNat = some z472.toInt := (ehp478 _ _ (Or.inl (bs_nq rb468 (bs_R.uq Hhp292 (g := 101) rfl) (by decide)))).trans hz472
                                  have h482 : sf_rd hp478 21 z463.toInt.toNat = some z473.toInt := (ehp478 _ _ (Or.inl (by decide))).trans hz473
                                  have h483 : sf_rd hp478 7 3 = some z476.toInt := (ehp478 _ _ (Or.inl (by decide))).trans hz476
                                  have r484 := rb468.fr fhp478
                                  refine Ev.step (j := 157) (s' := ([some (.ref 7), some (.ref a1), some (.ref 20), some (.int z23), some (.int z28), some (.int z40), some (.int k291), some (.int z475)], [.ref 7], (0, 0), hp478)) rfl rfl ?_
                                  exact by
                                   refine bs_getU (g := 1) (g1 := 100) rfl rfl Hhp478 (bs_R.uq Hhp478 (g := 1) rfl) (by decide) rfl rfl ?_
                                   refine Ev.step (j := 162) (s' := ([some (.ref 7), some (.ref a1), some (.ref 20), some (.int z23), some (.int z28), some (.int z40), some (.int k291), some (.int z475)], [.int k291, .ref 8], (0, 0), hp478)) rfl rfl ?_
                                   refine Ev.step (j := 163) (s' := ([some (.ref 7), some (.ref a1), some (.ref 20), some (.int z23), some (.int z28), some (.int z40), some (.int k291), some (.int z475)], [.ref 20, .int k291, .ref 8], (0, 0), hp478)) rfl rfl ?_
                                   refine bs_getU (g := 13) (g1 := 156) rfl rfl Hhp478 (bs_R.uq Hhp478 (g := 13) rfl) (by decide) rfl rfl ?_
                                   refine Ev.step (j := 168) (s' := ([some (.ref 7), some (.ref a1), some (.ref 20), some (.int z23), some (.int z28), some (.int z40), some (.int k291), some (.int z475)], [.int k291, .ref 21, .int k291, .ref 8], (0, 0), hp478)) rfl rfl ?_
                                   refine Ev.step (j := 169) (s' := ([some (.ref 7), some (.ref a1), some (.ref 20), some (.int z23), some (.int z28), some (.int z40), some (.int k291), some (.int z475)], [.int z23, .int k291, .ref 21, .int k291, .ref 8], (0, 0), hp478)) rfl rfl ?_
                                   refine Ev.inlS (L := L_X10_slotOf) (nL := 2) rfl rfl (Nat.le_of_ble_eq_true rfl) ?_
                                   generalize hQ485 : (fun (o : ab_O) => Ev _ _ _ _) = Q485
                                   refine (show Ev (ab_T L_X10_slotOf) 0 ([some (.int k291), some (.int z23)], [], (0, 0), hp478) Q485 from ?_)
                                   exact by
                                    refine bs_lit (k := 2) rfl rfl fun z486 hz486 => ?_
                                    refine Ev.step (j := 2) (s' := ([some (.int k291), some (.int z23)], [.int k291, .int z486], (0, 0), hp478)) rfl rfl ?_
                                    refine bs_mul (2) rfl (Or.inl hz486) (by rw [hz486]; omega) (by rw [hz486]; omega) fun z487 hz487 => ?_
                                    rw [hz486] at hz487
                                    refine Ev.step (j := 4) (s' := ([some (.int k291), some (.int z23)], [.int z23, .int z487], (0, 0), hp478)) rfl rfl ?_
                                    first | (refine bs_add rfl (by omega) (by omega) fun z488 hz488 => ?_) | (refine bs_any rfl fun z488 => ?_)
                                    have rz488 := n_range z488
                                    refine Ev.ret rfl rfl ?_
                                    rw [← hQ485]
                                    refine (show Ev _ 172 ([some (.ref 7), some (.ref a1), some (.ref 20), some (.int z23), some (.int z28), some (.int z40), some (.int k291), some (.int z475)], [.int z488, .ref 21, .int k291, .ref 8], (0, 0), hp478) _ from ?_)
                                    exact by
                                     refine bs_ld (g := 156) 0 11 (0, 999) rfl Hhp478 (bs_R.uq Hhp478 (g := 156) rfl) (by decide) rfl (by decide) (by decide) rfl (by decide) (by omega) (by omega) fun z489 hz489 lz489 gz489 => ?_
                                     dsimp only at lz489 gz489
                                     refine Ev.step (j := 175) (s' := ([some (.ref 7), some (.ref a1), some (.ref 20), some (.int z23), some (.int z28), some (.int z40), some (.int k291), some (.int z475)], [.int z475, .int z489, .int k291, .ref 8], (0, 0), hp478)) rfl rfl ?_
                                     refine Ev.step (j := 176) (s' := ([some (.ref 7), some (.ref a1), some (.ref 20), some (.int z23), some (.int z28), some (.int z40), some (.int k291), some (.int z475)], [.ref 7, .int z475, .int z489, .int k291, .ref 8], (0, 0), hp478)) rfl rfl ?_
                                     refine bs_getU (g := 1) (g1 := 101) rfl rfl Hhp478 (bs_R.uq Hhp478 (g := 1) rfl) (by decide) rfl rfl ?_
                                     refine Ev.step (j := 181) (s' := ([some (.ref 7), some (.ref a1), some (.ref 20), some (.int z23), some (.int z28), some (.int z40), some (.int k291), some (.int z475)], [.int k291, .ref 9, .int z475, .int z489, .int k291, .ref 8], (0, 0), hp478)) rfl rfl ?_
                                     refine bs_ld (g := 101) 0 5 (-2147483648, 2147483647) rfl Hhp478 (bs_R.uq Hhp478 (g := 101) rfl) (by decide) rfl (by decide) (by decide) rfl (by decide) (by omega) (by omega) fun z490 hz490 lz490 gz490 => ?_
                                     dsimp only at lz490 gz490
                                     have e491 : z490.toInt = z477.toInt := Option.some.inj (hz490.symm.trans rhp478)
                                     refine Ev.inlS (L := L_X1_amountMoved) (nL := 3) rfl rfl (Nat.le_of_ble_eq_true rfl) ?_
                                     generalize hQ492 : (fun (o : ab_O) => Ev _ _ _ _) = Q492
                                     refine (show Ev (ab_T L_X1_amountMoved) 0 ([some (.int z489), some (.int z475), some (.int z490)], [], (0, 0), hp478) Q492 from ?_)
                                     exact by
                                      refine bs_lit (k := 0) rfl rfl fun z493 hz493 => ?_
                                      refine Ev.step (j := 2) (s' := ([some (.int z489), some (.int z475), some (.int z490)], [.int z489, .int z493], (0, 0), hp478)) rfl rfl ?_
                                      refine Ev.step (j := 3) (s' := ([some (.int z489), some (.int z475), some (.int z490)], [.int z475, .int z489, .int z493], (0, 0), hp478)) rfl rfl ?_
                                      refine Ev.step (j := 4) (s' := ([some (.int z489), some (.int z475), some (.int z490)], [.int z490, .int z475, .int z489, .int z493], (0, 0), hp478)) rfl rfl ?_
                                      refine bs_min rfl rfl fun z494 hz494 => ?_
                                      refine bs_min rfl rfl fun z495 hz495 => ?_
                                      refine bs_max rfl rfl fun z496 hz496 => ?_
                                      refine Ev.ret rfl rfl ?_
                                      rw [← hQ492]
                                      refine (show Ev _ 185 ([some (.ref 7), some (.ref a1), some (.ref 20), some (.int z23), some (.int z28), some (.int z40), some (.int k291), some (.int z475)], [.int z496, .int k291, .ref 8], (0, 0), hp478) _ from ?_)
                                      exact by
                                       refine bs_st (W := [(100, 0, 5)]) (g := 100) 0 5 (-2147483648, 2147483647) rfl Hhp478 (bs_R.uq Hhp478 (g := 100) rfl) (by decide) rfl rfl (by decide) rfl rfl (by omega) (by omega) (by dsimp only; omega) (by dsimp only; omega) fun hp497 Hhp497 fhp497 rhp497 ehp497 qhp497 nhp497 => ?_
                                       have Fhp497 := sf_fr_tr Fhp478 (sf_fr_wider (W := [(1, 2, 3), (13, 7, 9), (100, 0, 5), (101, 0, 5), (156, 0, 11), (158, 0, 11), (159, 0, 11), (160, 0, 7), (161, 0, 7), (162, 0, 63)]) rfl fhp497)
                                       have h498 : sf_rd hp497 20 7 = some z12.toInt := (ehp497 _ _ (Or.inl (by decide))).trans h479
                                       have h499 : sf_rd hp497 a1 8 = some z299.toInt := (ehp497 _ _ (Or.inl (bs_nq (ra1.fr Fhp478) (bs_R.uq Hhp478 (g := 100) rfl) (by decide)))).trans h480
                                       have h500 : sf_rd hp497 b468 z471.toInt.toNat = some z472.toInt := (ehp497 _ _ (Or.inl (bs_nq r484 (bs_R.uq Hhp478 (g := 100) rfl) (by decide)))).trans h481
                                       have h501 : sf_rd hp497 21 z463.toInt.toNat = some z473.toInt := (ehp497 _ _ (Or.inl (by decide))).trans h482
                                       have h502 : sf_rd hp497 7 3 = some z476.toInt := (ehp497 _ _ (Or.inl (by decide))).trans h483
                                       have h503 : sf_rd hp497 9 k291.toInt.toNat = some z477.toInt := (ehp497 _ _ (Or.inl (by decide))).trans rhp478
                                       have h504 : sf_rd hp497 21 z488.toInt.toNat = some z489.toInt := (ehp497 _ _ (Or.inl (by decide))).trans hz489
                                       have r505 := r484.fr fhp497
                                       refine Ev.step (j := 187) (s' := ([some (.ref 7), some (.ref a1), some (.ref 20), some (.int z23), some (.int z28), some (.int z40), some (.int k291), some (.int z475)], [.ref 7], (0, 0), hp497)) rfl rfl ?_
                                       exact by
                                        refine Ev.step (j := 188) (s' := ([some (.ref 7), some (.ref a1), some (.ref 20), some (.int z23), some (.int z28), some (.int z40), some (.int k291), some (.int z475)], [.ref 7, .ref 7], (0, 0), hp497)) rfl rfl ?_
                                        refine bs_getI 1 rfl rfl rfl Hhp497 (bs_R.uq Hhp497 (g := 1) rfl) (by decide) rfl fun z506 hz506 lz506 gz506 => ?_
                                        have e507 : z506.toInt = z476.toInt := Option.some.inj (hz506.symm.trans h502)
                                        refine Ev.step (j := 192) (s' := ([some (.ref 7), some (.ref a1), some (.ref 20), some (.int z23), some (.int z28), some (.int z40), some (.int k291), some (.int z475)], [.ref 7, .int z506, .ref 7], (0, 0), hp497)) rfl rfl ?_
                                        refine bs_getU (g := 1) (g1 := 100) rfl rfl Hhp497 (bs_R.uq Hhp497 (g := 1) rfl) (by decide) rfl rfl ?_
                                        refine Ev.step (j := 197) (s' := ([some (.ref 7), some (.ref a1), some (.ref 20), some (.int z23), some (.int z28), some (.int z40), some (.int k291), some (.int z475)], [.int k291, .ref 8, .int z506, .ref 7], (0, 0), hp497)) rfl rfl ?_
                                        refine bs_ld (g := 100) 0 5 (-2147483648, 2147483647) rfl Hhp497 (bs_R.uq Hhp497 (g := 100) rfl) (by decide) rfl (by decide) (by decide) rfl (by decide) (by omega) (by omega) fun z508 hz508 lz508 gz508 => ?_
                                        dsimp only at lz508 gz508
                                        have e509 : z508.toInt = z496.toInt := Option.some.inj (hz508.symm.trans rhp497)
                                        first | (refine bs_add rfl (by omega) (by omega) fun z510 hz510 => ?_) | (refine bs_any rfl fun z510 => ?_)
                                        have rz510 := n_range z510
                                        refine bs_putI (W := [(1, 3, 3)]) (g := 1) rfl rfl Hhp497 (bs_R.uq Hhp497 (g := 1) rfl) (by decide) rfl rfl rfl rfl (Or.inl rfl) (by omega) (by omega) fun hp511 Hhp511 fhp511 rhp511 ehp511 qhp511 nhp511 => ?_
                                        have Fhp511 := sf_fr_tr Fhp497 (sf_fr_wider (W := [(1, 2, 3), (13, 7, 9), (100, 0, 5), (101, 0, 5), (156, 0, 11), (158, 0, 11), (159, 0, 11), (160, 0, 7), (161, 0, 7), (162, 0, 63)]) rfl fhp511)
                                        have h512 : sf_rd hp511 20 7 = some z12.toInt := (ehp511 _ _ (Or.inl (by decide))).trans h498
                                        have h513 : sf_rd hp511 a1 8 = some z299.toInt := (ehp511 _ _ (Or.inl (bs_nq (ra1.fr Fhp497) (bs_R.uq Hhp497 (g := 1) rfl) (by decide)))).trans h499
                                        have h514 : sf_rd hp511 b468 z471.toInt.toNat = some z472.toInt := (ehp511 _ _ (Or.inl (bs_nq r505 (bs_R.uq Hhp497 (g := 1) rfl) (by decide)))).trans h500
                                        have h515 : sf_rd hp511 21 z463.toInt.toNat = some z473.toInt := (ehp511 _ _ (Or.inl (by decide))).trans h501
                                        have h516 : sf_rd hp511 9 k291.toInt.toNat = some z477.toInt := (ehp511 _ _ (Or.inl (by decide))).trans h503
                                        have h517 : sf_rd hp511 21 z488.toInt.toNat = some z489.toInt := (ehp511 _ _ (Or.inl (by decide))).trans h504
                                        have h518 : sf_rd hp511 8 k291.toInt.toNat = some z496.toInt := (ehp511 _ _ (Or.inl (by decide))).trans rhp497
                                        have r519 := r505.fr fhp511
                                        refine bs_iinc (1) rfl rfl rfl rfl (by omega) (by omega) fun z520 hz520 => ?_
                                        exact by
                                         refine (show Ev _ 205 ([some (.ref 7), some (.ref a1), some (.ref 20), some (.int z23), some (.int z28), some (.int z40), some (.int z520), some (.int z475)], [], (0, 0), hp511) _ from ?_)
                                         refine Ev.step (j := 118) (s' := ([some (.ref 7), some (.ref a1), some (.ref 20), some (.int z23), some (.int z28), some (.int z40), some (.int z520), some (.int z475)], [], (0, 0), hp511)) rfl rfl ?_
                                         have FQ : ∀ q : Nat, (q : Int) < z520.toInt → fr_ok hp511 21 fr q := by
                                           intro q hq
                                           by_cases hqk : (q : Int) < k291.toInt
                                           · exact fr_ok_same (i298 q hqk) ((ehp511 _ _ (Or.inl (by decide))).trans ((ehp497 _ _ (Or.inr (by omega))).trans (ehp478 _ _ (Or.inl (by decide))))) ((ehp511 _ _ (Or.inl (by decide))).trans ((ehp497 _ _ (Or.inl (by decide))).trans (ehp478 _ _ (Or.inl (by decide))))) ((ehp511 _ _ (Or.inl (by decide))).trans ((ehp497 _ _ (Or.inl (by decide))).trans (ehp478 _ _ (Or.inl (by decide)))))
                                           · have eq : q = k291.toInt.toNat := by omega
                                             subst eq
                                             exact ⟨z496.toInt, z489.toInt, z473.toInt, h518, ((ehp511 _ _ (Or.inl (by decide))).trans (ehp497 _ _ (Or.inl (by decide)))).trans (bs_at hz489 (by omega)), ((ehp511 _ _ (Or.inl (by decide))).trans ((ehp497 _ _ (Or.inl (by decide))).trans (ehp478 _ _ (Or.inl (by decide))))).trans (bs_at hz473 (by omega)), by omega, by omega, by omega⟩
                                         refine ih295 (z520, (some (.int z475)), hp511, t293) ⟨Hhp511, Fhp511, h512, (by first | omega | assumption), (by first | exact FQ | exact fun q hq => absurd hq (by omega))⟩ ?_
                                         show (6 - z520.toInt).toNat < (6 - k291.toInt).toNat
                                         omega
                       · skip
                         refine Ev.step (j := 66) (s' := ([some (.ref 7), some (.ref a1), some (.ref 20), some (.int z23), some (.int z28), some (.int z40), some (.int k46), none], [.ref 20], (0, 0), hp47)) rfl rfl ?_
                         exact by
                          refine bs_getU (g := 13) (g1 := 160) rfl rfl Hhp47 (bs_R.uq Hhp47 (g := 13) rfl) (by decide) rfl rfl ?_
                          refine Ev.step (j := 71) (s' := ([some (.ref 7), some (.ref a1), some (.ref 20), some (.int z23), some (.int z28), some (.int z40), some (.int k46), none], [.int k46, .ref 25], (0, 0), hp47)) rfl rfl ?_
                          refine bs_ld (g := 160) 0 7 (-2147483648, 2147483647) rfl Hhp47 (bs_R.uq Hhp47 (g := 160) rfl) (by decide) rfl (by decide) (by decide) rfl (by decide) (by omega) (by omega) fun z521 hz521 lz521 gz521 => ?_
                          dsimp only at lz521 gz521
                          refine Ev.step (j := 73) (s' := ([some (.ref 7), some (.ref a1), some (.ref 20), some (.int z23), some (.int z28), some (.int z40), some (.int k46), none], [.int z23, .int z521], (0, 0), hp47)) rfl rfl ?_
                          refine bs_ne rfl (fun c522 => ?_) (fun c522 => ?_)
                          · skip
                            refine bs_iinc (1) rfl rfl rfl rfl (by omega) (by omega) fun z523 hz523 => ?_
                            refine (show Ev _ 112 ([some (.ref 7), some (.ref a1), some (.ref 20), some (.int z23), some (.int z28), some (.int z40), some (.int z523), none], [], (0, 0), hp47) _ from ?_)
                            refine Ev.step (j := 45) (s' := ([some (.ref 7), some (.ref a1), some (.ref 20), some (.int z23), some (.int z28), some (.int z40), some (.int z523), none], [], (0, 0), hp47)) rfl rfl ?_
                            exact by
                             refine ih49 (z523, hp47, t48) ⟨Hhp47, Fhp47, i50, (by first | omega | assumption)⟩ ?_
                             show (8 - z523.toInt).toNat < (8 - k46.toInt).toNat
                             omega
                          · skip
                            refine Ev.step (j := 78) (s' := ([some (.ref 7), some (.ref a1), some (.ref 20), some (.int z23), some (.int z28), some (.int z40), some (.int k46), none], [.int z40], (0, 0), hp47)) rfl rfl ?_
                            exact by
                             refine bs_lit (k := 1) rfl rfl fun z524 hz524 => ?_
                             refine Ev.step (j := 81) (s' := ([some (.ref 7), some (.ref a1), some (.ref 20), some (.int z23), some (.int z28), some (.int z40), some (.int k46), none], [.int k46, .int z524, .int z40], (0, 0), hp47)) rfl rfl ?_
                             refine bs_any rfl fun z525 => ?_
                             have rz525 := n_range z525
                             refine bs_any rfl fun z526 => ?_
                             have rz526 := n_range z526
                             refine bs_ifeq rfl (fun c527 => ?_) (fun c527 => ?_)
                             · skip
                               have c528 : z526.toInt = 0 := by omega
                               refine bs_iinc (1) rfl rfl rfl rfl (by omega) (by omega) fun z529 hz529 => ?_
                               exact by
                                refine (show Ev _ 112 ([some (.ref 7), some (.ref a1), some (.ref 20), some (.int z23), some (.int z28), some (.int z40), some (.int z529), none], [], (0, 0), hp47) _ from ?_)
                                refine Ev.step (j := 45) (s' := ([some (.ref 7), some (.ref a1), some (.ref 20), some (.int z23), some (.int z28), some (.int z40), some (.int z529), none], [], (0, 0), hp47)) rfl rfl ?_
                                refine ih49 (z529, hp47, t48) ⟨Hhp47, Fhp47, i50, (by first | omega | assumption)⟩ ?_
                                show (8 - z529.toInt).toNat < (8 - k46.toInt).toNat
                                omega
                             · skip
                               refine Ev.step (j := 87) (s' := ([some (.ref 7), some (.ref a1), some (.ref 20), some (.int z23), some (.int z28), some (.int z40), some (.int k46), none], [.ref 7], (0, 0), hp47)) rfl rfl ?_
                               exact by
                                refine Ev.step (j := 88) (s' := ([some (.ref 7), some (.ref a1), some (.ref 20), some (.int z23), some (.int z28), some (.int z40), some (.int k46), none], [.ref 7, .ref 7], (0, 0), hp47)) rfl rfl ?_
                                refine bs_getI 1 rfl rfl rfl Hhp47 (bs_R.uq Hhp47 (g := 1) rfl) (by decide) rfl fun z530 hz530 lz530 gz530 => ?_
                                refine bs_lit (k := 1) rfl rfl fun z531 hz531 => ?_
                                refine Ev.step (j := 94) (s' := ([some (.ref 7), some (.ref a1), some (.ref 20), some (.int z23), some (.int z28), some (.int z40), some (.int k46), none], [.int k46, .int z531, .int z530, .ref 7], (0, 0), hp47)) rfl rfl ?_
                                refine bs_any rfl fun z532 => ?_
                                have rz532 := n_range z532
                                refine bs_any rfl fun z533 => ?_
                                have rz533 := n_range z533
                                refine bs_putI (W := [(1, 2, 2)]) (g := 1) rfl rfl Hhp47 (bs_R.uq Hhp47 (g := 1) rfl) (by decide) rfl rfl rfl rfl (Or.inl rfl) (by omega) (by omega) fun hp534 Hhp534 fhp534 rhp534 ehp534 qhp534 nhp534 => ?_
                                have Fhp534 := sf_fr_tr Fhp47 (sf_fr_wider (W := [(1, 2, 3), (13, 7, 9), (100, 0, 5), (101, 0, 5), (156, 0, 11), (158, 0, 11), (159, 0, 11), (160, 0, 7), (161, 0, 7), (162, 0, 63)]) rfl fhp534)
                                have h535 : sf_rd hp534 20 7 = some z12.toInt := (ehp534 _ _ (Or.inl (by decide))).trans i50
                                have h536 : sf_rd hp534 a1 9 = some z52.toInt := (ehp534 _ _ (Or.inl (bs_nq (ra1.fr Fhp47) (bs_R.uq Hhp47 (g := 1) rfl) (by decide)))).trans hz52
                                have h537 : sf_rd hp534 7 3 = some z286.toInt := (ehp534 _ _ (Or.inr (by omega))).trans hz286
                                have h538 : sf_rd hp534 25 k46.toInt.toNat = some z521.toInt := (ehp534 _ _ (Or.inl (by decide))).trans hz521
                                refine Ev.step (j := 100) (s' := ([some (.ref 7), some (.ref a1), some (.ref 20), some (.int z23), some (.int z28), some (.int z40), some (.int k46), none], [.ref 7], (0, 0), hp534)) rfl rfl ?_
                                exact by
                                 refine Ev.step (j := 101) (s' := ([some (.ref 7), some (.ref a1), some (.ref 20), some (.int z23), some (.int z28), some (.int z40), some (.int k46), none], [.ref 7, .ref 7], (0, 0), hp534)) rfl rfl ?_
                                 refine bs_getI 1 rfl rfl rfl Hhp534 (bs_R.uq Hhp534 (g := 1) rfl) (by decide) rfl fun z539 hz539 lz539 gz539 => ?_
                                 have e540 : z539.toInt = z286.toInt := Option.some.inj (hz539.symm.trans h537)
                                 refine bs_lit (k := 2) rfl rfl fun z541 hz541 => ?_
                                 first | (refine bs_add rfl (by omega) (by omega) fun z542 hz542 => ?_) | (refine bs_any rfl fun z542 => ?_)
                                 have rz542 := n_range z542
                                 refine bs_putI (W := [(1, 3, 3)]) (g := 1) rfl rfl Hhp534 (bs_R.uq Hhp534 (g := 1) rfl) (by decide) rfl rfl rfl rfl (Or.inl rfl) (by omega) (by omega) fun hp543 Hhp543 fhp543 rhp543 ehp543 qhp543 nhp543 => ?_
                                 have Fhp543 := sf_fr_tr Fhp534 (sf_fr_wider (W := [(1, 2, 3), (13, 7, 9), (100, 0, 5), (101, 0, 5), (156, 0, 11), (158, 0, 11), (159, 0, 11), (160, 0, 7), (161, 0, 7), (162, 0, 63)]) rfl fhp543)
                                 have h544 : sf_rd hp543 20 7 = some z12.toInt := (ehp543 _ _ (Or.inl (by decide))).trans h535
                                 have h545 : sf_rd hp543 a1 9 = some z52.toInt := (ehp543 _ _ (Or.inl (bs_nq (ra1.fr Fhp534) (bs_R.uq Hhp534 (g := 1) rfl) (by decide)))).trans h536
                                 have h546 : sf_rd hp543 25 k46.toInt.toNat = some z521.toInt := (ehp543 _ _ (Or.inl (by decide))).trans h538
                                 have h547 : sf_rd hp543 7 2 = some z533.toInt := (ehp543 _ _ (Or.inr (by omega))).trans rhp534
                                 refine bs_iinc (1) rfl rfl rfl rfl (by omega) (by omega) fun z548 hz548 => ?_
                                 exact by
                                  refine (show Ev _ 112 ([some (.ref 7), some (.ref a1), some (.ref 20), some (.int z23), some (.int z28), some (.int z40), some (.int z548), none], [], (0, 0), hp543) _ from ?_)
                                  refine Ev.step (j := 45) (s' := ([some (.ref 7), some (.ref a1), some (.ref 20), some (.int z23), some (.int z28), some (.int z40), some (.int z548), none], [], (0, 0), hp543)) rfl rfl ?_
                                  refine ih49 (z548, hp543, t48) ⟨Hhp543, Fhp543, h544, (by first | omega | assumption)⟩ ?_
                                  show (8 - z548.toInt).toNat < (8 - k46.toInt).toNat
                                  omega
def kq_X6_apartOf_605951 : sf_Q := ([(1, 6, 0), (0, 0, 0), (0, 0, 0)], [(1, 3, 0, 0, 7, 0), (1, 6, 0, 0, 7, 0)], some (0, 0, 0), [], [])
def kc_X6_apartOf_605951 : List (Nat × sf_I) := [(0, 2, [1, 1]),
  (1, 2, [2, 2]),
  (2, 21, [5, 19, 3]),
  (5, 4, [6, 0]),
  (6, 23, [9, 6, 6]),
  (9, 2, [10, 1]),
  (10, 0, [12, 8]),
  (12, 9, [13, 2]),
  (13, 2, [14, 2]),
  (14, 9, [15, 0]),
  (15, 25, [16, 1]),
  (16, 22, [30]),
  (19, 4, [20, 0]),
  (20, 23, [23, 6, 6]),
  (23, 2, [24, 2]),
  (24, 0, [26, 8]),
  (26, 9, [27, 2]),
  (27, 2, [28, 1]),
  (28, 9, [29, 0]),
  (29, 25, [30, 1]),
  (30, 35, [0, 0])]
def kd_X6_apartOf_605951_0 : List (Nat × sf_D × sf_M) := [(0, ([(1, 6, 0), (0, 0, 0), (0, 0, 0)], [], [(1, 4, 0, 0, 7, 0), (1, 7, 0, 0, 7, 0)], 0, 0), (12, [])),
  (1, ([(1, 6, 0), (0, 0, 0), (0, 0, 0)], [(0, 0, 0)], [(1, 4, 0, 0, 7, 0), (1, 7, 0, 0, 7, 0), (1, 0, 0, 0, 7, 0), (2, 0, 4, 1, 0, 0)], 0, 0), (11, [])),
  (2, ([(1, 6, 0), (0, 0, 0), (0, 0, 0)], [(0, 0, 0), (0, 0, 0)], [(1, 4, 0, 0, 7, 0), (1, 7, 0, 0, 7, 0), (1, 0, 0, 0, 7, 0), (1, 3, 0, 0, 7, 0), (2, 0, 4, 1, 0, 0), (2, 3, 7, 1, 0, 0)], 0, 0), (10, [])),
  (5, ([(1, 6, 0), (0, 0, 0), (0, 0, 0)], [], [(1, 4, 0, 1, 7, 0), (1, 7, 0, 0, 6, 0)], 0, 0), (9, [])),
  (6, ([(1, 6, 0), (0, 0, 0), (0, 0, 0)], [(1, 6, 0)], [(1, 4, 0, 1, 7, 0), (1, 7, 0, 0, 6, 0)], 0, 0), (8, [])),
  (9, ([(1, 6, 0), (0, 0, 0), (0, 0, 0)], [(1, 155, 0)], [(1, 4, 0, 1, 7, 0), (1, 7, 0, 0, 6, 0)], 0, 0), (7, [])),
  (10, ([(1, 6, 0), (0, 0, 0), (0, 0, 0)], [(0, 0, 0), (1, 155, 0)], [(1, 4, 0, 1, 7, 0), (1, 7, 0, 0, 6, 0), (1, 3, 0, 1, 7, 0), (2, 3, 4, 1, 0, 0)], 0, 0), (6, [])),
  (12, ([(1, 6, 0), (0, 0, 0), (0, 0, 0)], [(0, 0, 0), (0, 0, 0), (1, 155, 0)], [(1, 4, 0, 1, 7, 0), (1, 7, 0, 0, 6, 0), (1, 3, 0, 1, 7, 0), (1, 6, 0, 8, 8, 0), (2, 3, 4, 1, 0, 0)], 0, 0), (5, [])),
  (13, ([(1, 6, 0), (0, 0, 0), (0, 0, 0)], [(0, 0, 0), (1, 155, 0)], [(1, 4, 0, 1, 7, 0), (1, 7, 0, 0, 6, 0), (1, 3, 0, 8, 56, 0), (2, 3, 4, 8, 0, 0)], 0, 0), (4, []))]
def kd_X6_apartOf_605951_1 : List (Nat × sf_D × sf_M) := [(14, ([(1, 6, 0), (0, 0, 0), (0, 0, 0)], [(0, 0, 0), (0, 0, 0), (1, 155, 0)], [(1, 4, 0, 1, 7, 0), (1, 7, 0, 0, 6, 0), (1, 3, 0, 8, 56, 0), (1, 6, 0, 0, 6, 0), (2, 3, 4, 8, 0, 0), (2, 6, 7, 1, 0, 0)], 0, 0), (3, [])),
  (15, ([(1, 6, 0), (0, 0, 0), (0, 0, 0)], [(0, 0, 0), (1, 155, 0)], [(1, 4, 0, 1, 7, 0), (1, 7, 0, 0, 6, 0), (1, 3, 0, 8, 62, 0)], 0, 0), (2, [])),
  (16, ([(1, 6, 0), (0, 0, 0), (0, 0, 0)], [(0, 0, 0)], [(1, 4, 0, 1, 7, 0), (1, 7, 0, 0, 6, 0), (1, 0, 0, -2147483648, 2147483647, 0)], 0, 0), (1, [])),
  (19, ([(1, 6, 0), (0, 0, 0), (0, 0, 0)], [], [(1, 4, 0, 0, 7, 0), (1, 7, 0, 0, 7, 0)], 0, 0), (8, [])),
  (20, ([(1, 6, 0), (0, 0, 0), (0, 0, 0)], [(1, 6, 0)], [(1, 4, 0, 0, 7, 0), (1, 7, 0, 0, 7, 0)], 0, 0), (7, [])),
  (23, ([(1, 6, 0), (0, 0, 0), (0, 0, 0)], [(1, 155, 0)], [(1, 4, 0, 0, 7, 0), (1, 7, 0, 0, 7, 0)], 0, 0), (6, [])),
  (24, ([(1, 6, 0), (0, 0, 0), (0, 0, 0)], [(0, 0, 0), (1, 155, 0)], [(1, 4, 0, 0, 7, 0), (1, 7, 0, 0, 7, 0), (1, 3, 0, 0, 7, 0), (2, 3, 7, 1, 0, 0)], 0, 0), (5, [])),
  (26, ([(1, 6, 0), (0, 0, 0), (0, 0, 0)], [(0, 0, 0), (0, 0, 0), (1, 155, 0)], [(1, 4, 0, 0, 7, 0), (1, 7, 0, 0, 7, 0), (1, 3, 0, 0, 7, 0), (1, 6, 0, 8, 8, 0), (2, 3, 7, 1, 0, 0)], 0, 0), (4, [])),
  (27, ([(1, 6, 0), (0, 0, 0), (0, 0, 0)], [(0, 0, 0), (1, 155, 0)], [(1, 4, 0, 0, 7, 0), (1, 7, 0, 0, 7, 0), (1, 3, 0, 0, 56, 0), (2, 3, 7, 8, 0, 0)], 0, 0), (3, []))]
def kd_X6_apartOf_605951_2 : List (Nat × sf_D × sf_M) := [(28, ([(1, 6, 0), (0, 0, 0), (0, 0, 0)], [(0, 0, 0), (0, 0, 0), (1, 155, 0)], [(1, 4, 0, 0, 7, 0), (1, 7, 0, 0, 7, 0), (1, 3, 0, 0, 56, 0), (1, 6, 0, 0, 7, 0), (2, 3, 7, 8, 0, 0), (2, 6, 4, 1, 0, 0)], 0, 0), (2, [])),
  (29, ([(1, 6, 0), (0, 0, 0), (0, 0, 0)], [(0, 0, 0), (1, 155, 0)], [(1, 4, 0, 0, 7, 0), (1, 7, 0, 0, 7, 0), (1, 3, 0, 0, 63, 0)], 0, 0), (1, [])),
  (30, ([(1, 6, 0), (0, 0, 0), (0, 0, 0)], [(0, 0, 0)], [(1, 4, 0, 0, 7, 0), (1, 7, 0, 0, 7, 0), (1, 0, 0, -2147483648, 2147483647, 0)], 0, 0), (0, []))]
def kd_X6_apartOf_605951 : List (Nat × sf_D × sf_M) := kd_X6_apartOf_605951_0 ++ (kd_X6_apartOf_605951_1 ++ (kd_X6_apartOf_605951_2))
set_option maxRecDepth 100000 in
theorem kt_X6_apartOf_605951 : sf_chk [] kq_X6_apartOf_605951 3 kc_X6_apartOf_605951 kd_X6_apartOf_605951 = true := by decide +kernel
set_option maxRecDepth 100000 in
theorem kl_X6_apartOf_605951 : (kc_X6_apartOf_605951).map (fun c => (c.1, sf_den ([] : List sf_X) c.2)) = L_X6_apartOf := rfl
theorem ct_X6_apartOf_605951 : sf_ct kq_X6_apartOf_605951 Z_X6_apartOf := by
  have h := sf_meth (K := []) (E := []) (k := kq_X6_apartOf_605951) (nL := 3) (C := kc_X6_apartOf_605951) (D := kd_X6_apartOf_605951) (fun m k hk => match m, hk with
    | _ + 0, hk => (by cases hk)) kt_X6_apartOf_605951
  rw [kl_X6_apartOf_605951] at h
  exact h
def kq_X6_isFelt_c5165c : sf_Q := ([(1, 6, 0), (1, 7, 0), (0, 0, 0)], [(1, 6, 0, 0, 19, 0)], some (0, 0, 0), [(1, 0, 0, 0, 1, 0)], [])
def kc_X6_isFelt_c5165c : List (Nat × sf_I) := [(0, 4, [1, 1]),
  (1, 23, [4, 7, 4]),
  (4, 2, [5, 2]),
  (5, 25, [6, 1]),
  (6, 5, [7, 3]),
  (7, 4, [8, 1]),
  (8, 23, [11, 7, 5]),
  (11, 2, [12, 2]),
  (12, 25, [13, 1]),
  (13, 5, [15, 4]),
  (15, 4, [16, 0]),
  (16, 23, [19, 6, 4]),
  (19, 2, [20, 3]),
  (20, 25, [21, 1]),
  (21, 0, [22, -1]),
  (22, 21, [25, 40, 0]),
  (25, 4, [26, 0]),
  (26, 23, [29, 6, 4]),
  (29, 2, [31, 4]),
  (31, 25, [32, 1]),
  (32, 0, [33, -1]),
  (33, 21, [36, 40, 0]),
  (36, 0, [37, 1]),
  (37, 22, [41]),
  (40, 0, [41, 0]),
  (41, 5, [43, 5]),
  (43, 2, [45, 5]),
  (45, 20, [48, 84, 0]),
  (48, 4, [49, 0]),
  (49, 23, [52, 6, 4]),
  (52, 2, [53, 3]),
  (53, 25, [54, 1]),
  (54, 4, [55, 0]),
  (55, 23, [58, 6, 4]),
  (58, 2, [60, 4]),
  (60, 25, [61, 1]),
  (61, 21, [64, 84, 0]),
  (64, 4, [65, 0]),
  (65, 2, [66, 3]),
  (66, 2, [68, 4]),
  (68, 32, [71, 0, 3, 6, 0, 0, 0, 0]),
  (71, 4, [72, 1]),
  (72, 23, [75, 7, 6]),
  (75, 2, [76, 2]),
  (76, 25, [77, 1]),
  (77, 21, [80, 84, 2]),
  (80, 0, [81, 1]),
  (81, 22, [85]),
  (84, 0, [85, 0]),
  (85, 36, [0, 0])]
def kd_X6_isFelt_c5165c_0 : List (Nat × sf_D × sf_M) := [(0, ([(1, 6, 0), (1, 7, 0), (0, 0, 0), (8, 0, 0), (8, 0, 0), (8, 0, 0)], [], [(1, 7, 0, 0, 19, 0)], 0, 0), (47, [])),
  (1, ([(1, 6, 0), (1, 7, 0), (0, 0, 0), (8, 0, 0), (8, 0, 0), (8, 0, 0)], [(1, 7, 0)], [(1, 7, 0, 0, 19, 0)], 0, 0), (46, [])),
  (4, ([(1, 6, 0), (1, 7, 0), (0, 0, 0), (8, 0, 0), (8, 0, 0), (8, 0, 0)], [(1, 120, 0)], [(1, 7, 0, 0, 19, 0)], 0, 0), (45, [])),
  (5, ([(1, 6, 0), (1, 7, 0), (0, 0, 0), (8, 0, 0), (8, 0, 0), (8, 0, 0)], [(0, 0, 0), (1, 120, 0)], [(1, 7, 0, 0, 19, 0), (1, 3, 0, 0, 19, 0), (2, 3, 7, 1, 0, 0)], 0, 0), (44, [])),
  (6, ([(1, 6, 0), (1, 7, 0), (0, 0, 0), (8, 0, 0), (8, 0, 0), (8, 0, 0)], [(0, 0, 0)], [(1, 7, 0, 0, 19, 0), (1, 0, 0, 0, 7, 0)], 0, 0), (43, [])),
  (7, ([(1, 6, 0), (1, 7, 0), (0, 0, 0), (0, 0, 0), (8, 0, 0), (8, 0, 0)], [], [(1, 7, 0, 0, 19, 0), (1, 10, 0, 0, 7, 0)], 0, 0), (42, [])),
  (8, ([(1, 6, 0), (1, 7, 0), (0, 0, 0), (0, 0, 0), (8, 0, 0), (8, 0, 0)], [(1, 7, 0)], [(1, 7, 0, 0, 19, 0), (1, 10, 0, 0, 7, 0)], 0, 0), (41, [])),
  (11, ([(1, 6, 0), (1, 7, 0), (0, 0, 0), (0, 0, 0), (8, 0, 0), (8, 0, 0)], [(1, 121, 0)], [(1, 7, 0, 0, 19, 0), (1, 10, 0, 0, 7, 0)], 0, 0), (40, [])),
  (12, ([(1, 6, 0), (1, 7, 0), (0, 0, 0), (0, 0, 0), (8, 0, 0), (8, 0, 0)], [(0, 0, 0), (1, 121, 0)], [(1, 7, 0, 0, 19, 0), (1, 10, 0, 0, 7, 0), (1, 3, 0, 0, 19, 0), (2, 3, 7, 1, 0, 0)], 0, 0), (39, []))]
def kd_X6_isFelt_c5165c_1 : List (Nat × sf_D × sf_M) := [(13, ([(1, 6, 0), (1, 7, 0), (0, 0, 0), (0, 0, 0), (8, 0, 0), (8, 0, 0)], [(0, 0, 0)], [(1, 7, 0, 0, 19, 0), (1, 10, 0, 0, 7, 0), (1, 0, 0, 0, 7, 0)], 0, 0), (38, [])),
  (15, ([(1, 6, 0), (1, 7, 0), (0, 0, 0), (0, 0, 0), (0, 0, 0), (8, 0, 0)], [], [(1, 7, 0, 0, 19, 0), (1, 10, 0, 0, 7, 0), (1, 13, 0, 0, 7, 0)], 0, 0), (37, [])),
  (16, ([(1, 6, 0), (1, 7, 0), (0, 0, 0), (0, 0, 0), (0, 0, 0), (8, 0, 0)], [(1, 6, 0)], [(1, 7, 0, 0, 19, 0), (1, 10, 0, 0, 7, 0), (1, 13, 0, 0, 7, 0)], 0, 0), (36, [])),
  (19, ([(1, 6, 0), (1, 7, 0), (0, 0, 0), (0, 0, 0), (0, 0, 0), (8, 0, 0)], [(1, 153, 0)], [(1, 7, 0, 0, 19, 0), (1, 10, 0, 0, 7, 0), (1, 13, 0, 0, 7, 0)], 0, 0), (35, [])),
  (20, ([(1, 6, 0), (1, 7, 0), (0, 0, 0), (0, 0, 0), (0, 0, 0), (8, 0, 0)], [(0, 0, 0), (1, 153, 0)], [(1, 7, 0, 0, 19, 0), (1, 10, 0, 0, 7, 0), (1, 13, 0, 0, 7, 0), (1, 3, 0, 0, 7, 0), (2, 3, 10, 1, 0, 0)], 0, 0), (34, [])),
  (21, ([(1, 6, 0), (1, 7, 0), (0, 0, 0), (0, 0, 0), (0, 0, 0), (8, 0, 0)], [(0, 0, 0)], [(1, 7, 0, 0, 19, 0), (1, 10, 0, 0, 7, 0), (1, 13, 0, 0, 7, 0), (1, 0, 0, -2147483648, 2147483647, 0)], 0, 0), (33, [])),
  (22, ([(1, 6, 0), (1, 7, 0), (0, 0, 0), (0, 0, 0), (0, 0, 0), (8, 0, 0)], [(0, 0, 0), (0, 0, 0)], [(1, 7, 0, 0, 19, 0), (1, 10, 0, 0, 7, 0), (1, 13, 0, 0, 7, 0), (1, 0, 0, -2147483648, 2147483647, 0), (1, 3, 0, -1, -1, 0)], 0, 0), (32, []))]
def kd_X6_isFelt_c5165c_2 : List (Nat × sf_D × sf_M) := [(25, ([(1, 6, 0), (1, 7, 0), (0, 0, 0), (0, 0, 0), (0, 0, 0), (8, 0, 0)], [], [(1, 7, 0, 0, 19, 0), (1, 10, 0, 0, 7, 0), (1, 13, 0, 0, 7, 0)], 0, 0), (31, [])),
  (26, ([(1, 6, 0), (1, 7, 0), (0, 0, 0), (0, 0, 0), (0, 0, 0), (8, 0, 0)], [(1, 6, 0)], [(1, 7, 0, 0, 19, 0), (1, 10, 0, 0, 7, 0), (1, 13, 0, 0, 7, 0)], 0, 0), (30, [])),
  (29, ([(1, 6, 0), (1, 7, 0), (0, 0, 0), (0, 0, 0), (0, 0, 0), (8, 0, 0)], [(1, 153, 0)], [(1, 7, 0, 0, 19, 0), (1, 10, 0, 0, 7, 0), (1, 13, 0, 0, 7, 0)], 0, 0), (29, [])),
  (31, ([(1, 6, 0), (1, 7, 0), (0, 0, 0), (0, 0, 0), (0, 0, 0), (8, 0, 0)], [(0, 0, 0), (1, 153, 0)], [(1, 7, 0, 0, 19, 0), (1, 10, 0, 0, 7, 0), (1, 13, 0, 0, 7, 0), (1, 3, 0, 0, 7, 0), (2, 3, 13, 1, 0, 0)], 0, 0), (28, [])),
  (32, ([(1, 6, 0), (1, 7, 0), (0, 0, 0), (0, 0, 0), (0, 0, 0), (8, 0, 0)], [(0, 0, 0)], [(1, 7, 0, 0, 19, 0), (1, 10, 0, 0, 7, 0), (1, 13, 0, 0, 7, 0), (1, 0, 0, -2147483648, 2147483647, 0)], 0, 0), (27, [])),
  (33, ([(1, 6, 0), (1, 7, 0), (0, 0, 0), (0, 0, 0), (0, 0, 0), (8, 0, 0)], [(0, 0, 0), (0, 0, 0)], [(1, 7, 0, 0, 19, 0), (1, 10, 0, 0, 7, 0), (1, 13, 0, 0, 7, 0), (1, 0, 0, -2147483648, 2147483647, 0), (1, 3, 0, -1, -1, 0)], 0, 0), (26, [])),
  (36, ([(1, 6, 0), (1, 7, 0), (0, 0, 0), (0, 0, 0), (0, 0, 0), (8, 0, 0)], [], [(1, 7, 0, 0, 19, 0), (1, 10, 0, 0, 7, 0), (1, 13, 0, 0, 7, 0)], 0, 0), (25, []))]
def kd_X6_isFelt_c5165c_3 : List (Nat × sf_D × sf_M) := [(37, ([(1, 6, 0), (1, 7, 0), (0, 0, 0), (0, 0, 0), (0, 0, 0), (8, 0, 0)], [(0, 0, 0)], [(1, 7, 0, 0, 19, 0), (1, 10, 0, 0, 7, 0), (1, 13, 0, 0, 7, 0), (1, 0, 0, 1, 1, 0)], 0, 0), (24, [])),
  (40, ([(1, 6, 0), (1, 7, 0), (0, 0, 0), (0, 0, 0), (0, 0, 0), (8, 0, 0)], [], [(1, 7, 0, 0, 19, 0), (1, 10, 0, 0, 7, 0), (1, 13, 0, 0, 7, 0)], 0, 0), (24, [])),
  (41, ([(1, 6, 0), (1, 7, 0), (0, 0, 0), (0, 0, 0), (0, 0, 0), (8, 0, 0)], [(0, 0, 0)], [(1, 7, 0, 0, 19, 0), (1, 10, 0, 0, 7, 0), (1, 13, 0, 0, 7, 0), (1, 0, 0, 0, 1, 0)], 0, 0), (23, [])),
  (43, ([(1, 6, 0), (1, 7, 0), (0, 0, 0), (0, 0, 0), (0, 0, 0), (0, 0, 0)], [], [(1, 7, 0, 0, 19, 0), (1, 10, 0, 0, 7, 0), (1, 13, 0, 0, 7, 0), (1, 16, 0, 0, 1, 0)], 0, 0), (22, [])),
  (45, ([(1, 6, 0), (1, 7, 0), (0, 0, 0), (0, 0, 0), (0, 0, 0), (0, 0, 0)], [(0, 0, 0)], [(1, 7, 0, 0, 19, 0), (1, 10, 0, 0, 7, 0), (1, 13, 0, 0, 7, 0), (1, 16, 0, 0, 1, 0), (1, 0, 0, 0, 1, 0), (2, 0, 16, 1, 0, 0)], 0, 0), (21, [])),
  (48, ([(1, 6, 0), (1, 7, 0), (0, 0, 0), (0, 0, 0), (0, 0, 0), (0, 0, 0)], [], [(1, 7, 0, 0, 19, 0), (1, 10, 0, 0, 7, 0), (1, 13, 0, 0, 7, 0), (1, 16, 0, 1, 1, 0)], 0, 0), (20, []))]
def kd_X6_isFelt_c5165c_4 : List (Nat × sf_D × sf_M) := [(49, ([(1, 6, 0), (1, 7, 0), (0, 0, 0), (0, 0, 0), (0, 0, 0), (0, 0, 0)], [(1, 6, 0)], [(1, 7, 0, 0, 19, 0), (1, 10, 0, 0, 7, 0), (1, 13, 0, 0, 7, 0), (1, 16, 0, 1, 1, 0)], 0, 0), (19, [])),
  (52, ([(1, 6, 0), (1, 7, 0), (0, 0, 0), (0, 0, 0), (0, 0, 0), (0, 0, 0)], [(1, 153, 0)], [(1, 7, 0, 0, 19, 0), (1, 10, 0, 0, 7, 0), (1, 13, 0, 0, 7, 0), (1, 16, 0, 1, 1, 0)], 0, 0), (18, [])),
  (53, ([(1, 6, 0), (1, 7, 0), (0, 0, 0), (0, 0, 0), (0, 0, 0), (0, 0, 0)], [(0, 0, 0), (1, 153, 0)], [(1, 7, 0, 0, 19, 0), (1, 10, 0, 0, 7, 0), (1, 13, 0, 0, 7, 0), (1, 16, 0, 1, 1, 0), (1, 3, 0, 0, 7, 0), (2, 3, 10, 1, 0, 0)], 0, 0), (17, [])),
  (54, ([(1, 6, 0), (1, 7, 0), (0, 0, 0), (0, 0, 0), (0, 0, 0), (0, 0, 0)], [(0, 0, 0)], [(1, 7, 0, 0, 19, 0), (1, 10, 0, 0, 7, 0), (1, 13, 0, 0, 7, 0), (1, 16, 0, 1, 1, 0), (1, 0, 0, -2147483648, 2147483647, 0)], 0, 0), (16, [])),
  (55, ([(1, 6, 0), (1, 7, 0), (0, 0, 0), (0, 0, 0), (0, 0, 0), (0, 0, 0)], [(1, 6, 0), (0, 0, 0)], [(1, 7, 0, 0, 19, 0), (1, 10, 0, 0, 7, 0), (1, 13, 0, 0, 7, 0), (1, 16, 0, 1, 1, 0), (1, 0, 0, -2147483648, 2147483647, 0)], 0, 0), (15, []))]
def kd_X6_isFelt_c5165c_5 : List (Nat × sf_D × sf_M) := [(58, ([(1, 6, 0), (1, 7, 0), (0, 0, 0), (0, 0, 0), (0, 0, 0), (0, 0, 0)], [(1, 153, 0), (0, 0, 0)], [(1, 7, 0, 0, 19, 0), (1, 10, 0, 0, 7, 0), (1, 13, 0, 0, 7, 0), (1, 16, 0, 1, 1, 0), (1, 0, 0, -2147483648, 2147483647, 0)], 0, 0), (14, [])),
  (60, ([(1, 6, 0), (1, 7, 0), (0, 0, 0), (0, 0, 0), (0, 0, 0), (0, 0, 0)], [(0, 0, 0), (1, 153, 0), (0, 0, 0)], [(1, 7, 0, 0, 19, 0), (1, 10, 0, 0, 7, 0), (1, 13, 0, 0, 7, 0), (1, 16, 0, 1, 1, 0), (1, 0, 0, -2147483648, 2147483647, 0), (1, 6, 0, 0, 7, 0), (2, 6, 13, 1, 0, 0)], 0, 0), (13, [])),
  (61, ([(1, 6, 0), (1, 7, 0), (0, 0, 0), (0, 0, 0), (0, 0, 0), (0, 0, 0)], [(0, 0, 0), (0, 0, 0)], [(1, 7, 0, 0, 19, 0), (1, 10, 0, 0, 7, 0), (1, 13, 0, 0, 7, 0), (1, 16, 0, 1, 1, 0), (1, 0, 0, -2147483648, 2147483647, 0), (1, 3, 0, -2147483648, 2147483647, 0)], 0, 0), (12, [])),
  (64, ([(1, 6, 0), (1, 7, 0), (0, 0, 0), (0, 0, 0), (0, 0, 0), (0, 0, 0)], [], [(1, 7, 0, 0, 19, 0), (1, 10, 0, 0, 7, 0), (1, 13, 0, 0, 7, 0), (1, 16, 0, 1, 1, 0)], 0, 0), (11, [])),
  (65, ([(1, 6, 0), (1, 7, 0), (0, 0, 0), (0, 0, 0), (0, 0, 0), (0, 0, 0)], [(1, 6, 0)], [(1, 7, 0, 0, 19, 0), (1, 10, 0, 0, 7, 0), (1, 13, 0, 0, 7, 0), (1, 16, 0, 1, 1, 0)], 0, 0), (10, []))]
def kd_X6_isFelt_c5165c_6 : List (Nat × sf_D × sf_M) := [(66, ([(1, 6, 0), (1, 7, 0), (0, 0, 0), (0, 0, 0), (0, 0, 0), (0, 0, 0)], [(0, 0, 0), (1, 6, 0)], [(1, 7, 0, 0, 19, 0), (1, 10, 0, 0, 7, 0), (1, 13, 0, 0, 7, 0), (1, 16, 0, 1, 1, 0), (1, 3, 0, 0, 7, 0), (2, 3, 10, 1, 0, 0)], 0, 0), (9, [])),
  (68, ([(1, 6, 0), (1, 7, 0), (0, 0, 0), (0, 0, 0), (0, 0, 0), (0, 0, 0)], [(0, 0, 0), (0, 0, 0), (1, 6, 0)], [(1, 7, 0, 0, 19, 0), (1, 10, 0, 0, 7, 0), (1, 13, 0, 0, 7, 0), (1, 16, 0, 1, 1, 0), (1, 3, 0, 0, 7, 0), (1, 6, 0, 0, 7, 0), (2, 3, 10, 1, 0, 0), (2, 6, 13, 1, 0, 0)], 0, 0), (8, [])),
  (71, ([(1, 6, 0), (1, 7, 0), (0, 0, 0), (0, 0, 0), (0, 0, 0), (0, 0, 0)], [(0, 0, 0)], [(1, 7, 0, 0, 19, 0), (1, 10, 0, 0, 7, 0), (1, 13, 0, 0, 7, 0), (1, 16, 0, 1, 1, 0), (1, 0, 0, -2147483648, 2147483647, 0)], 0, 0), (7, [])),
  (72, ([(1, 6, 0), (1, 7, 0), (0, 0, 0), (0, 0, 0), (0, 0, 0), (0, 0, 0)], [(1, 7, 0), (0, 0, 0)], [(1, 7, 0, 0, 19, 0), (1, 10, 0, 0, 7, 0), (1, 13, 0, 0, 7, 0), (1, 16, 0, 1, 1, 0), (1, 0, 0, -2147483648, 2147483647, 0)], 0, 0), (6, [])),
  (75, ([(1, 6, 0), (1, 7, 0), (0, 0, 0), (0, 0, 0), (0, 0, 0), (0, 0, 0)], [(1, 122, 0), (0, 0, 0)], [(1, 7, 0, 0, 19, 0), (1, 10, 0, 0, 7, 0), (1, 13, 0, 0, 7, 0), (1, 16, 0, 1, 1, 0), (1, 0, 0, -2147483648, 2147483647, 0)], 0, 0), (5, []))]
def kd_X6_isFelt_c5165c_7 : List (Nat × sf_D × sf_M) := [(76, ([(1, 6, 0), (1, 7, 0), (0, 0, 0), (0, 0, 0), (0, 0, 0), (0, 0, 0)], [(0, 0, 0), (1, 122, 0), (0, 0, 0)], [(1, 7, 0, 0, 19, 0), (1, 10, 0, 0, 7, 0), (1, 13, 0, 0, 7, 0), (1, 16, 0, 1, 1, 0), (1, 0, 0, -2147483648, 2147483647, 0), (1, 6, 0, 0, 19, 0), (2, 6, 7, 1, 0, 0)], 0, 0), (4, [])),
  (77, ([(1, 6, 0), (1, 7, 0), (0, 0, 0), (0, 0, 0), (0, 0, 0), (0, 0, 0)], [(0, 0, 0), (0, 0, 0)], [(1, 7, 0, 0, 19, 0), (1, 10, 0, 0, 7, 0), (1, 13, 0, 0, 7, 0), (1, 16, 0, 1, 1, 0), (1, 0, 0, -2147483648, 2147483647, 0), (1, 3, 0, -2147483648, 2147483647, 0)], 0, 0), (3, [])),
  (80, ([(1, 6, 0), (1, 7, 0), (0, 0, 0), (0, 0, 0), (0, 0, 0), (0, 0, 0)], [], [(1, 7, 0, 0, 19, 0), (1, 10, 0, 0, 7, 0), (1, 13, 0, 0, 7, 0), (1, 16, 0, 1, 1, 0)], 0, 0), (2, [])),
  (81, ([(1, 6, 0), (1, 7, 0), (0, 0, 0), (0, 0, 0), (0, 0, 0), (0, 0, 0)], [(0, 0, 0)], [(1, 7, 0, 0, 19, 0), (1, 10, 0, 0, 7, 0), (1, 13, 0, 0, 7, 0), (1, 16, 0, 1, 1, 0), (1, 0, 0, 1, 1, 0)], 0, 0), (1, [])),
  (84, ([(1, 6, 0), (1, 7, 0), (0, 0, 0), (0, 0, 0), (0, 0, 0), (0, 0, 0)], [], [(1, 7, 0, 0, 19, 0), (1, 10, 0, 0, 7, 0), (1, 13, 0, 0, 7, 0), (1, 16, 0, 0, 1, 0)], 0, 0), (1, []))]
def kd_X6_isFelt_c5165c_8 : List (Nat × sf_D × sf_M) := [(85, ([(1, 6, 0), (1, 7, 0), (0, 0, 0), (0, 0, 0), (0, 0, 0), (0, 0, 0)], [(0, 0, 0)], [(1, 7, 0, 0, 19, 0), (1, 10, 0, 0, 7, 0), (1, 13, 0, 0, 7, 0), (1, 16, 0, 0, 1, 0), (1, 0, 0, 0, 1, 0), (3, 0, 16, 1, 1, 0)], 0, 0), (0, []))]
def kd_X6_isFelt_c5165c : List (Nat × sf_D × sf_M) := kd_X6_isFelt_c5165c_0 ++ (kd_X6_isFelt_c5165c_1 ++ (kd_X6_isFelt_c5165c_2 ++ (kd_X6_isFelt_c5165c_3 ++ (kd_X6_isFelt_c5165c_4 ++ (kd_X6_isFelt_c5165c_5 ++ (kd_X6_isFelt_c5165c_6 ++ (kd_X6_isFelt_c5165c_7 ++ (kd_X6_isFelt_c5165c_8))))))))
set_option maxRecDepth 100000 in
theorem kt_X6_isFelt_c5165c : sf_chk [kq_X6_apartOf_605951] kq_X6_isFelt_c5165c 6 kc_X6_isFelt_c5165c kd_X6_isFelt_c5165c = true := by decide +kernel
set_option maxRecDepth 100000 in
theorem kl_X6_isFelt_c5165c : (kc_X6_isFelt_c5165c).map (fun c => (c.1, sf_den ([Z_X6_apartOf] : List sf_X) c.2)) = L_X6_isFelt Z_X6_apartOf := rfl
theorem ct_X6_isFelt_c5165c : sf_ct kq_X6_isFelt_c5165c Z_X6_isFelt := by
  have h := sf_meth (K := [kq_X6_apartOf_605951]) (E := [Z_X6_apartOf]) (k := kq_X6_isFelt_c5165c) (nL := 6) (C := kc_X6_isFelt_c5165c) (D := kd_X6_isFelt_c5165c) (fun m k hk => match m, hk with
    | 0, hk => (Option.some.inj hk) ▸ ct_X6_apartOf_605951
    | _ + 1, hk => (by cases hk)) kt_X6_isFelt_c5165c
  rw [kl_X6_isFelt_c5165c] at h
  exact h
def kq_X6_allMissed_d5e88f : sf_Q := ([(1, 6, 0), (1, 7, 0)], [], some (0, 0, 0), [], [])
def kc_X6_allMissed_d5e88f : List (Nat × sf_I) := [(0, 0, [1, 0]),
  (1, 5, [2, 2]),
  (2, 0, [3, 0]),
  (3, 5, [4, 3]),
  (4, 2, [5, 3]),
  (5, 4, [6, 1]),
  (6, 23, [9, 7, 10]),
  (9, 21, [12, 38, 5]),
  (12, 4, [13, 0]),
  (13, 4, [14, 1]),
  (14, 2, [15, 3]),
  (15, 32, [18, 0, 3, 6, 0, 0, 0, 0]),
  (18, 20, [21, 32, 0]),
  (21, 2, [22, 2]),
  (22, 0, [23, 1]),
  (23, 4, [24, 1]),
  (24, 23, [27, 7, 5]),
  (27, 2, [28, 3]),
  (28, 25, [29, 1]),
  (29, 9, [30, 6]),
  (30, 9, [31, 4]),
  (31, 5, [32, 2]),
  (32, 8, [35, 3, 1]),
  (35, 22, [4]),
  (38, 2, [39, 2]),
  (39, 35, [0, 0])]
def kd_X6_allMissed_d5e88f_0 : List (Nat × sf_D × sf_M) := [(0, ([(1, 6, 0), (1, 7, 0), (8, 0, 0), (8, 0, 0)], [], [], 0, 0), (462, [])),
  (1, ([(1, 6, 0), (1, 7, 0), (8, 0, 0), (8, 0, 0)], [(0, 0, 0)], [(1, 0, 0, 0, 0, 0)], 0, 0), (461, [])),
  (2, ([(1, 6, 0), (1, 7, 0), (0, 0, 0), (8, 0, 0)], [], [(1, 7, 0, 0, 0, 0)], 0, 0), (460, [])),
  (3, ([(1, 6, 0), (1, 7, 0), (0, 0, 0), (8, 0, 0)], [(0, 0, 0)], [(1, 7, 0, 0, 0, 0), (1, 0, 0, 0, 0, 0)], 0, 0), (459, [])),
  (4, ([(1, 6, 0), (1, 7, 0), (0, 0, 0), (0, 0, 0)], [], [(1, 7, 0, -2147483648, 2147483647, 0), (1, 10, 0, 0, 20, 0)], 0, 0), (18, [(22, 10, 20, 0)])),
  (5, ([(1, 6, 0), (1, 7, 0), (0, 0, 0), (0, 0, 0)], [(0, 0, 0)], [(1, 7, 0, -2147483648, 2147483647, 0), (1, 10, 0, 0, 20, 0), (1, 0, 0, 0, 20, 0), (2, 0, 10, 1, 0, 0)], 0, 0), (17, [(22, 10, 20, 0)])),
  (6, ([(1, 6, 0), (1, 7, 0), (0, 0, 0), (0, 0, 0)], [(1, 7, 0), (0, 0, 0)], [(1, 7, 0, -2147483648, 2147483647, 0), (1, 10, 0, 0, 20, 0), (1, 0, 0, 0, 20, 0), (2, 0, 10, 1, 0, 0)], 0, 0), (16, [(22, 10, 20, 0)])),
  (9, ([(1, 6, 0), (1, 7, 0), (0, 0, 0), (0, 0, 0)], [(0, 0, 20), (0, 0, 0)], [(1, 7, 0, -2147483648, 2147483647, 0), (1, 10, 0, 0, 20, 0), (1, 0, 0, 0, 20, 0), (1, 3, 0, 0, 20, 0), (2, 0, 10, 1, 0, 0)], 0, 0), (15, [(22, 10, 20, 0)])),
  (12, ([(1, 6, 0), (1, 7, 0), (0, 0, 0), (0, 0, 0)], [], [(1, 7, 0, -2147483648, 2147483647, 0), (1, 10, 0, 0, 19, 0)], 0, 0), (14, [(22, 10, 20, 0)]))]
def kd_X6_allMissed_d5e88f_1 : List (Nat × sf_D × sf_M) := [(13, ([(1, 6, 0), (1, 7, 0), (0, 0, 0), (0, 0, 0)], [(1, 6, 0)], [(1, 7, 0, -2147483648, 2147483647, 0), (1, 10, 0, 0, 19, 0)], 0, 0), (13, [(22, 10, 20, 0)])),
  (14, ([(1, 6, 0), (1, 7, 0), (0, 0, 0), (0, 0, 0)], [(1, 7, 0), (1, 6, 0)], [(1, 7, 0, -2147483648, 2147483647, 0), (1, 10, 0, 0, 19, 0)], 0, 0), (12, [(22, 10, 20, 0)])),
  (15, ([(1, 6, 0), (1, 7, 0), (0, 0, 0), (0, 0, 0)], [(0, 0, 0), (1, 7, 0), (1, 6, 0)], [(1, 7, 0, -2147483648, 2147483647, 0), (1, 10, 0, 0, 19, 0), (1, 6, 0, 0, 19, 0), (2, 6, 10, 1, 0, 0)], 0, 0), (11, [(22, 10, 20, 0)])),
  (18, ([(1, 6, 0), (1, 7, 0), (0, 0, 0), (0, 0, 0)], [(0, 0, 0)], [(1, 7, 0, -2147483648, 2147483647, 0), (1, 10, 0, 0, 19, 0), (1, 0, 0, 0, 1, 0)], 0, 0), (10, [(22, 10, 20, 0)])),
  (21, ([(1, 6, 0), (1, 7, 0), (0, 0, 0), (0, 0, 0)], [], [(1, 7, 0, -2147483648, 2147483647, 0), (1, 10, 0, 0, 19, 0)], 0, 0), (9, [(22, 10, 20, 0)])),
  (22, ([(1, 6, 0), (1, 7, 0), (0, 0, 0), (0, 0, 0)], [(0, 0, 0)], [(1, 7, 0, -2147483648, 2147483647, 0), (1, 10, 0, 0, 19, 0), (1, 0, 0, -2147483648, 2147483647, 0), (2, 0, 7, 1, 0, 0)], 0, 0), (8, [(22, 10, 20, 0)])),
  (23, ([(1, 6, 0), (1, 7, 0), (0, 0, 0), (0, 0, 0)], [(0, 0, 0), (0, 0, 0)], [(1, 7, 0, -2147483648, 2147483647, 0), (1, 10, 0, 0, 19, 0), (1, 0, 0, -2147483648, 2147483647, 0), (1, 3, 0, 1, 1, 0), (2, 0, 7, 1, 0, 0)], 0, 0), (7, [(22, 10, 20, 0)]))]
def kd_X6_allMissed_d5e88f_2 : List (Nat × sf_D × sf_M) := [(24, ([(1, 6, 0), (1, 7, 0), (0, 0, 0), (0, 0, 0)], [(1, 7, 0), (0, 0, 0), (0, 0, 0)], [(1, 7, 0, -2147483648, 2147483647, 0), (1, 10, 0, 0, 19, 0), (1, 0, 0, -2147483648, 2147483647, 0), (1, 3, 0, 1, 1, 0), (2, 0, 7, 1, 0, 0)], 0, 0), (6, [(22, 10, 20, 0)])),
  (27, ([(1, 6, 0), (1, 7, 0), (0, 0, 0), (0, 0, 0)], [(1, 121, 0), (0, 0, 0), (0, 0, 0)], [(1, 7, 0, -2147483648, 2147483647, 0), (1, 10, 0, 0, 19, 0), (1, 0, 0, -2147483648, 2147483647, 0), (1, 3, 0, 1, 1, 0), (2, 0, 7, 1, 0, 0)], 0, 0), (5, [(22, 10, 20, 0)])),
  (28, ([(1, 6, 0), (1, 7, 0), (0, 0, 0), (0, 0, 0)], [(0, 0, 0), (1, 121, 0), (0, 0, 0), (0, 0, 0)], [(1, 7, 0, -2147483648, 2147483647, 0), (1, 10, 0, 0, 19, 0), (1, 0, 0, -2147483648, 2147483647, 0), (1, 3, 0, 1, 1, 0), (1, 9, 0, 0, 19, 0), (2, 0, 7, 1, 0, 0), (2, 9, 10, 1, 0, 0)], 0, 0), (4, [(22, 10, 20, 0)])),
  (29, ([(1, 6, 0), (1, 7, 0), (0, 0, 0), (0, 0, 0)], [(0, 0, 0), (0, 0, 0), (0, 0, 0)], [(1, 7, 0, -2147483648, 2147483647, 0), (1, 10, 0, 0, 19, 0), (1, 0, 0, -2147483648, 2147483647, 0), (1, 3, 0, 1, 1, 0), (1, 6, 0, 0, 7, 0), (2, 0, 7, 1, 0, 0)], 0, 0), (3, [(22, 10, 20, 0)])),
  (30, ([(1, 6, 0), (1, 7, 0), (0, 0, 0), (0, 0, 0)], [(0, 0, 0), (0, 0, 0)], [(1, 7, 0, -2147483648, 2147483647, 0), (1, 10, 0, 0, 19, 0), (1, 0, 0, -2147483648, 2147483647, 0), (1, 3, 0, -2147483648, 2147483647, 0), (2, 0, 7, 1, 0, 0)], 0, 0), (2, [(22, 10, 20, 0)]))]
def kd_X6_allMissed_d5e88f_3 : List (Nat × sf_D × sf_M) := [(31, ([(1, 6, 0), (1, 7, 0), (0, 0, 0), (0, 0, 0)], [(0, 0, 0)], [(1, 7, 0, -2147483648, 2147483647, 0), (1, 10, 0, 0, 19, 0), (1, 0, 0, -2147483648, 2147483647, 0)], 0, 0), (1, [(22, 10, 20, 0)])),
  (32, ([(1, 6, 0), (1, 7, 0), (0, 0, 0), (0, 0, 0)], [], [(1, 7, 0, -2147483648, 2147483647, 0), (1, 10, 0, 0, 19, 0)], 0, 0), (0, [(22, 10, 20, 0)])),
  (35, ([(1, 6, 0), (1, 7, 0), (0, 0, 0), (0, 0, 0)], [], [(1, 7, 0, -2147483648, 2147483647, 0), (1, 10, 0, 1, 20, 0)], 0, 0), (19, [(22, 10, 20, 0)])),
  (38, ([(1, 6, 0), (1, 7, 0), (0, 0, 0), (0, 0, 0)], [], [(1, 7, 0, -2147483648, 2147483647, 0), (1, 10, 0, 0, 20, 0)], 0, 0), (1, [])),
  (39, ([(1, 6, 0), (1, 7, 0), (0, 0, 0), (0, 0, 0)], [(0, 0, 0)], [(1, 7, 0, -2147483648, 2147483647, 0), (1, 10, 0, 0, 20, 0), (1, 0, 0, -2147483648, 2147483647, 0), (2, 0, 7, 1, 0, 0)], 0, 0), (0, []))]
def kd_X6_allMissed_d5e88f : List (Nat × sf_D × sf_M) := kd_X6_allMissed_d5e88f_0 ++ (kd_X6_allMissed_d5e88f_1 ++ (kd_X6_allMissed_d5e88f_2 ++ (kd_X6_allMissed_d5e88f_3)))
set_option maxRecDepth 100000 in
theorem kt_X6_allMissed_d5e88f : sf_chk [kq_X6_isFelt_c5165c] kq_X6_allMissed_d5e88f 4 kc_X6_allMissed_d5e88f kd_X6_allMissed_d5e88f = true := by decide +kernel
set_option maxRecDepth 100000 in
theorem kl_X6_allMissed_d5e88f : (kc_X6_allMissed_d5e88f).map (fun c => (c.1, sf_den ([Z_X6_isFelt] : List sf_X) c.2)) = L_X6_allMissed Z_X6_isFelt := rfl
theorem ct_X6_allMissed_d5e88f : sf_ct kq_X6_allMissed_d5e88f Z_X6_allMissed := by
  have h := sf_meth (K := [kq_X6_isFelt_c5165c]) (E := [Z_X6_isFelt]) (k := kq_X6_allMissed_d5e88f) (nL := 4) (C := kc_X6_allMissed_d5e88f) (D := kd_X6_allMissed_d5e88f) (fun m k hk => match m, hk with
    | 0, hk => (Option.some.inj hk) ▸ ct_X6_isFelt_c5165c
    | _ + 1, hk => (by cases hk)) kt_X6_allMissed_d5e88f
  rw [kl_X6_allMissed_d5e88f] at h
  exact h
def kq_X6_makeAndEat_d5e88f : sf_Q := ([(1, 6, 0), (1, 7, 0)], [], none, [], [(149, 0, 11), (151, 0, 11)])
def kc_X6_makeAndEat_d5e88f : List (Nat × sf_I) := [(0, 0, [1, 0]),
  (1, 5, [2, 2]),
  (2, 2, [3, 2]),
  (3, 0, [4, 2]),
  (4, 4, [5, 1]),
  (5, 23, [8, 7, 8]),
  (8, 9, [9, 2]),
  (9, 21, [12, 55, 5]),
  (12, 4, [13, 1]),
  (13, 2, [14, 2]),
  (14, 4, [15, 0]),
  (15, 23, [18, 6, 0]),
  (18, 2, [19, 2]),
  (19, 25, [20, 1]),
  (20, 32, [23, 0, 3, 7, 0, 0, 0, 0]),
  (23, 5, [24, 3]),
  (24, 2, [25, 3]),
  (25, 20, [28, 38, 5]),
  (28, 4, [29, 0]),
  (29, 23, [32, 6, 2]),
  (32, 2, [33, 2]),
  (33, 18, [34]),
  (34, 25, [35, 1]),
  (35, 2, [36, 3]),
  (36, 9, [37, 1]),
  (37, 28, [38, 1]),
  (38, 4, [39, 0]),
  (39, 23, [42, 6, 0]),
  (42, 2, [43, 2]),
  (43, 0, [44, 0]),
  (44, 2, [45, 3]),
  (45, 33, [48, 0, 0, 0]),
  (48, 28, [49, 1]),
  (49, 8, [52, 2, 1]),
  (52, 22, [2]),
  (55, 37, [0, 0])]
def kd_X6_makeAndEat_d5e88f_0 : List (Nat × sf_D × sf_M) := [(0, ([(1, 6, 0), (1, 7, 0), (8, 0, 0), (8, 0, 0)], [], [], 0, 0), (453, [])),
  (1, ([(1, 6, 0), (1, 7, 0), (8, 0, 0), (8, 0, 0)], [(0, 0, 0)], [(1, 0, 0, 0, 0, 0)], 0, 0), (452, [])),
  (2, ([(1, 6, 0), (1, 7, 0), (0, 0, 0), (8, 0, 0)], [], [(1, 7, 0, 0, 12, 0)], 0, 0), (31, [(35, 7, 12, 0)])),
  (3, ([(1, 6, 0), (1, 7, 0), (0, 0, 0), (8, 0, 0)], [(0, 0, 0)], [(1, 7, 0, 0, 12, 0), (1, 0, 0, 0, 12, 0), (2, 0, 7, 1, 0, 0)], 0, 0), (30, [(35, 7, 12, 0)])),
  (4, ([(1, 6, 0), (1, 7, 0), (0, 0, 0), (8, 0, 0)], [(0, 0, 0), (0, 0, 0)], [(1, 7, 0, 0, 12, 0), (1, 0, 0, 0, 12, 0), (1, 3, 0, 2, 2, 0), (2, 0, 7, 1, 0, 0)], 0, 0), (29, [(35, 7, 12, 0)])),
  (5, ([(1, 6, 0), (1, 7, 0), (0, 0, 0), (8, 0, 0)], [(1, 7, 0), (0, 0, 0), (0, 0, 0)], [(1, 7, 0, 0, 12, 0), (1, 0, 0, 0, 12, 0), (1, 3, 0, 2, 2, 0), (2, 0, 7, 1, 0, 0)], 0, 0), (28, [(35, 7, 12, 0)])),
  (8, ([(1, 6, 0), (1, 7, 0), (0, 0, 0), (8, 0, 0)], [(0, 0, 6), (0, 0, 0), (0, 0, 0)], [(1, 7, 0, 0, 12, 0), (1, 0, 0, 0, 12, 0), (1, 3, 0, 2, 2, 0), (1, 6, 0, 0, 6, 0), (2, 0, 7, 1, 0, 0)], 0, 0), (27, [(35, 7, 12, 0)])),
  (9, ([(1, 6, 0), (1, 7, 0), (0, 0, 0), (8, 0, 0)], [(0, 0, 0), (0, 0, 0)], [(1, 7, 0, 0, 12, 0), (1, 0, 0, 0, 12, 0), (1, 3, 0, 0, 12, 0), (2, 0, 7, 1, 0, 0)], 0, 0), (26, [(35, 7, 12, 0)]))]
def kd_X6_makeAndEat_d5e88f_1 : List (Nat × sf_D × sf_M) := [(12, ([(1, 6, 0), (1, 7, 0), (0, 0, 0), (8, 0, 0)], [], [(1, 7, 0, 0, 11, 0)], 0, 0), (25, [(35, 7, 12, 0)])),
  (13, ([(1, 6, 0), (1, 7, 0), (0, 0, 0), (8, 0, 0)], [(1, 7, 0)], [(1, 7, 0, 0, 11, 0)], 0, 0), (24, [(35, 7, 12, 0)])),
  (14, ([(1, 6, 0), (1, 7, 0), (0, 0, 0), (8, 0, 0)], [(0, 0, 0), (1, 7, 0)], [(1, 7, 0, 0, 11, 0), (1, 3, 0, 0, 11, 0), (2, 3, 7, 1, 0, 0)], 0, 0), (23, [(35, 7, 12, 0)])),
  (15, ([(1, 6, 0), (1, 7, 0), (0, 0, 0), (8, 0, 0)], [(1, 6, 0), (0, 0, 0), (1, 7, 0)], [(1, 7, 0, 0, 11, 0), (1, 3, 0, 0, 11, 0), (2, 3, 7, 1, 0, 0)], 0, 0), (22, [(35, 7, 12, 0)])),
  (18, ([(1, 6, 0), (1, 7, 0), (0, 0, 0), (8, 0, 0)], [(1, 149, 0), (0, 0, 0), (1, 7, 0)], [(1, 7, 0, 0, 11, 0), (1, 3, 0, 0, 11, 0), (2, 3, 7, 1, 0, 0)], 0, 0), (21, [(35, 7, 12, 0)])),
  (19, ([(1, 6, 0), (1, 7, 0), (0, 0, 0), (8, 0, 0)], [(0, 0, 0), (1, 149, 0), (0, 0, 0), (1, 7, 0)], [(1, 7, 0, 0, 11, 0), (1, 3, 0, 0, 11, 0), (1, 9, 0, 0, 11, 0), (2, 3, 7, 1, 0, 0), (2, 9, 7, 1, 0, 0)], 0, 0), (20, [(35, 7, 12, 0)])),
  (20, ([(1, 6, 0), (1, 7, 0), (0, 0, 0), (8, 0, 0)], [(0, 0, 0), (0, 0, 0), (1, 7, 0)], [(1, 7, 0, 0, 11, 0), (1, 3, 0, 0, 11, 0), (1, 6, 0, 0, 999, 0), (2, 3, 7, 1, 0, 0)], 0, 0), (19, [(35, 7, 12, 0)])),
  (23, ([(1, 6, 0), (1, 7, 0), (0, 0, 0), (8, 0, 0)], [(0, 0, 0)], [(1, 7, 0, 0, 11, 0), (1, 0, 0, -250, 999, 0)], 0, 0), (18, [(35, 7, 12, 0)]))]
def kd_X6_makeAndEat_d5e88f_2 : List (Nat × sf_D × sf_M) := [(24, ([(1, 6, 0), (1, 7, 0), (0, 0, 0), (0, 0, 0)], [], [(1, 7, 0, 0, 11, 0), (1, 10, 0, -250, 999, 0)], 0, 0), (17, [(35, 7, 12, 0)])),
  (25, ([(1, 6, 0), (1, 7, 0), (0, 0, 0), (0, 0, 0)], [(0, 0, 0)], [(1, 7, 0, 0, 11, 0), (1, 10, 0, -250, 999, 0), (1, 0, 0, -250, 999, 0), (2, 0, 10, 1, 0, 0)], 0, 0), (16, [(35, 7, 12, 0)])),
  (28, ([(1, 6, 0), (1, 7, 0), (0, 0, 0), (0, 0, 0)], [], [(1, 7, 0, 0, 11, 0), (1, 10, 0, -250, -1, 0)], 0, 0), (15, [(35, 7, 12, 0)])),
  (29, ([(1, 6, 0), (1, 7, 0), (0, 0, 0), (0, 0, 0)], [(1, 6, 0)], [(1, 7, 0, 0, 11, 0), (1, 10, 0, -250, -1, 0)], 0, 0), (14, [(35, 7, 12, 0)])),
  (32, ([(1, 6, 0), (1, 7, 0), (0, 0, 0), (0, 0, 0)], [(1, 151, 0)], [(1, 7, 0, 0, 11, 0), (1, 10, 0, -250, -1, 0)], 0, 0), (13, [(35, 7, 12, 0)])),
  (33, ([(1, 6, 0), (1, 7, 0), (0, 0, 0), (0, 0, 0)], [(0, 0, 0), (1, 151, 0)], [(1, 7, 0, 0, 11, 0), (1, 10, 0, -250, -1, 0), (1, 3, 0, 0, 11, 0), (2, 3, 7, 1, 0, 0)], 0, 0), (12, [(35, 7, 12, 0)])),
  (34, ([(1, 6, 0), (1, 7, 0), (0, 0, 0), (0, 0, 0)], [(0, 0, 0), (1, 151, 0), (0, 0, 0), (1, 151, 0)], [(1, 7, 0, 0, 11, 0), (1, 10, 0, -250, -1, 0), (1, 3, 0, 0, 11, 0), (1, 9, 0, 0, 11, 0), (2, 3, 7, 1, 0, 0), (2, 9, 3, 1, 0, 0)], 0, 0), (11, [(35, 7, 12, 0)]))]
def kd_X6_makeAndEat_d5e88f_3 : List (Nat × sf_D × sf_M) := [(35, ([(1, 6, 0), (1, 7, 0), (0, 0, 0), (0, 0, 0)], [(0, 0, 0), (0, 0, 0), (1, 151, 0)], [(1, 7, 0, 0, 11, 0), (1, 10, 0, -250, -1, 0), (1, 3, 0, 0, 11, 0), (1, 6, 0, -2147483648, 2147483647, 0), (2, 3, 7, 1, 0, 0)], 0, 0), (10, [(35, 7, 12, 0)])),
  (36, ([(1, 6, 0), (1, 7, 0), (0, 0, 0), (0, 0, 0)], [(0, 0, 0), (0, 0, 0), (0, 0, 0), (1, 151, 0)], [(1, 7, 0, 0, 11, 0), (1, 10, 0, -250, -1, 0), (1, 3, 0, 0, 11, 0), (1, 6, 0, -2147483648, 2147483647, 0), (1, 9, 0, -250, -1, 0), (2, 3, 7, 1, 0, 0), (2, 9, 10, 1, 0, 0)], 0, 0), (9, [(35, 7, 12, 0)])),
  (37, ([(1, 6, 0), (1, 7, 0), (0, 0, 0), (0, 0, 0)], [(0, 0, 0), (0, 0, 0), (1, 151, 0)], [(1, 7, 0, 0, 11, 0), (1, 10, 0, -250, -1, 0), (1, 3, 0, 0, 11, 0), (1, 6, 0, -2147483648, 2147483647, 0), (2, 3, 7, 1, 0, 0)], 0, 0), (8, [(35, 7, 12, 0)])),
  (38, ([(1, 6, 0), (1, 7, 0), (0, 0, 0), (0, 0, 0)], [], [(1, 7, 0, 0, 11, 0), (1, 10, 0, -250, 999, 0)], 0, 0), (7, [(35, 7, 12, 0)])),
  (39, ([(1, 6, 0), (1, 7, 0), (0, 0, 0), (0, 0, 0)], [(1, 6, 0)], [(1, 7, 0, 0, 11, 0), (1, 10, 0, -250, 999, 0)], 0, 0), (6, [(35, 7, 12, 0)])),
  (42, ([(1, 6, 0), (1, 7, 0), (0, 0, 0), (0, 0, 0)], [(1, 149, 0)], [(1, 7, 0, 0, 11, 0), (1, 10, 0, -250, 999, 0)], 0, 0), (5, [(35, 7, 12, 0)]))]
def kd_X6_makeAndEat_d5e88f_4 : List (Nat × sf_D × sf_M) := [(43, ([(1, 6, 0), (1, 7, 0), (0, 0, 0), (0, 0, 0)], [(0, 0, 0), (1, 149, 0)], [(1, 7, 0, 0, 11, 0), (1, 10, 0, -250, 999, 0), (1, 3, 0, 0, 11, 0), (2, 3, 7, 1, 0, 0)], 0, 0), (4, [(35, 7, 12, 0)])),
  (44, ([(1, 6, 0), (1, 7, 0), (0, 0, 0), (0, 0, 0)], [(0, 0, 0), (0, 0, 0), (1, 149, 0)], [(1, 7, 0, 0, 11, 0), (1, 10, 0, -250, 999, 0), (1, 3, 0, 0, 11, 0), (1, 6, 0, 0, 0, 0), (2, 3, 7, 1, 0, 0)], 0, 0), (3, [(35, 7, 12, 0)])),
  (45, ([(1, 6, 0), (1, 7, 0), (0, 0, 0), (0, 0, 0)], [(0, 0, 0), (0, 0, 0), (0, 0, 0), (1, 149, 0)], [(1, 7, 0, 0, 11, 0), (1, 10, 0, -250, 999, 0), (1, 3, 0, 0, 11, 0), (1, 6, 0, 0, 0, 0), (1, 9, 0, -250, 999, 0), (2, 3, 7, 1, 0, 0), (2, 9, 10, 1, 0, 0)], 0, 0), (2, [(35, 7, 12, 0)])),
  (48, ([(1, 6, 0), (1, 7, 0), (0, 0, 0), (0, 0, 0)], [(0, 0, 0), (0, 0, 0), (1, 149, 0)], [(1, 7, 0, 0, 11, 0), (1, 10, 0, -250, 999, 0), (1, 3, 0, 0, 11, 0), (1, 6, 0, 0, 999, 0), (2, 3, 7, 1, 0, 0)], 0, 0), (1, [(35, 7, 12, 0)])),
  (49, ([(1, 6, 0), (1, 7, 0), (0, 0, 0), (0, 0, 0)], [], [(1, 7, 0, 0, 11, 0), (1, 10, 0, -250, 999, 0)], 0, 0), (0, [(35, 7, 12, 0)])),
  (52, ([(1, 6, 0), (1, 7, 0), (0, 0, 0), (0, 0, 0)], [], [(1, 10, 0, -250, 999, 0), (1, 7, 0, 1, 12, 0)], 0, 0), (32, [(35, 7, 12, 0)])),
  (55, ([(1, 6, 0), (1, 7, 0), (0, 0, 0), (8, 0, 0)], [], [(1, 7, 0, 0, 12, 0)], 0, 0), (0, []))]
def kd_X6_makeAndEat_d5e88f : List (Nat × sf_D × sf_M) := kd_X6_makeAndEat_d5e88f_0 ++ (kd_X6_makeAndEat_d5e88f_1 ++ (kd_X6_makeAndEat_d5e88f_2 ++ (kd_X6_makeAndEat_d5e88f_3 ++ (kd_X6_makeAndEat_d5e88f_4))))
set_option maxRecDepth 100000 in
theorem kt_X6_makeAndEat_d5e88f : sf_chk [kq_X7_leftAfter_746df8] kq_X6_makeAndEat_d5e88f 4 kc_X6_makeAndEat_d5e88f kd_X6_makeAndEat_d5e88f = true := by decide +kernel
set_option maxRecDepth 100000 in
theorem kl_X6_makeAndEat_d5e88f : (kc_X6_makeAndEat_d5e88f).map (fun c => (c.1, sf_den ([Z_X7_leftAfter] : List sf_X) c.2)) = L_X6_makeAndEat Z_X7_leftAfter := rfl
theorem ct_X6_makeAndEat_d5e88f : sf_ct kq_X6_makeAndEat_d5e88f Z_X6_makeAndEat := by
  have h := sf_meth (K := [kq_X7_leftAfter_746df8]) (E := [Z_X7_leftAfter]) (k := kq_X6_makeAndEat_d5e88f) (nL := 4) (C := kc_X6_makeAndEat_d5e88f) (D := kd_X6_makeAndEat_d5e88f) (fun m k hk => match m, hk with
    | 0, hk => (Option.some.inj hk) ▸ ct_X7_leftAfter_746df8
    | _ + 1, hk => (by cases hk)) kt_X6_makeAndEat_d5e88f
  rw [kl_X6_makeAndEat_d5e88f] at h
  exact h
def kq_X6_countApart_d5e88f : sf_Q := ([(1, 6, 0), (1, 7, 0)], [], none, [], [(155, 8, 62)])
def kc_X6_countApart_d5e88f : List (Nat × sf_I) := [(0, 0, [1, 0]),
  (1, 5, [2, 2]),
  (2, 2, [3, 2]),
  (3, 4, [4, 1]),
  (4, 23, [7, 7, 9]),
  (7, 21, [10, 74, 5]),
  (10, 0, [11, 0]),
  (11, 5, [12, 3]),
  (12, 2, [13, 3]),
  (13, 2, [14, 2]),
  (14, 21, [17, 68, 5]),
  (17, 2, [18, 2]),
  (18, 0, [20, 8]),
  (20, 9, [21, 2]),
  (21, 2, [22, 3]),
  (22, 9, [23, 0]),
  (23, 5, [25, 4]),
  (25, 4, [26, 0]),
  (26, 23, [29, 6, 4]),
  (29, 2, [30, 2]),
  (30, 25, [31, 1]),
  (31, 4, [32, 0]),
  (32, 23, [35, 6, 4]),
  (35, 2, [36, 3]),
  (36, 25, [37, 1]),
  (37, 21, [40, 51, 1]),
  (40, 4, [41, 0]),
  (41, 23, [44, 6, 6]),
  (44, 2, [46, 4]),
  (46, 0, [47, 0]),
  (47, 28, [48, 1]),
  (48, 22, [62]),
  (51, 4, [52, 0]),
  (52, 23, [55, 6, 6]),
  (55, 2, [57, 4]),
  (57, 18, [58]),
  (58, 25, [59, 1]),
  (59, 0, [60, 1]),
  (60, 9, [61, 0]),
  (61, 28, [62, 1]),
  (62, 8, [65, 3, 1]),
  (65, 22, [12]),
  (68, 8, [71, 2, 1]),
  (71, 22, [2]),
  (74, 37, [0, 0])]
def kd_X6_countApart_d5e88f_0 : List (Nat × sf_D × sf_M) := [(0, ([(1, 6, 0), (1, 7, 0), (8, 0, 0), (8, 0, 0), (8, 0, 0)], [], [], 0, 0), (2654, [])),
  (1, ([(1, 6, 0), (1, 7, 0), (8, 0, 0), (8, 0, 0), (8, 0, 0)], [(0, 0, 0)], [(1, 0, 0, 0, 0, 0)], 0, 0), (2653, [])),
  (2, ([(1, 6, 0), (1, 7, 0), (0, 0, 0), (8, 0, 0), (8, 0, 0)], [], [(1, 7, 0, 0, 8, 0)], 0, 0), (284, [(296, 7, 8, 0)])),
  (3, ([(1, 6, 0), (1, 7, 0), (0, 0, 0), (8, 0, 0), (8, 0, 0)], [(0, 0, 0)], [(1, 7, 0, 0, 8, 0), (1, 0, 0, 0, 8, 0), (2, 0, 7, 1, 0, 0)], 0, 0), (283, [(296, 7, 8, 0)])),
  (4, ([(1, 6, 0), (1, 7, 0), (0, 0, 0), (8, 0, 0), (8, 0, 0)], [(1, 7, 0), (0, 0, 0)], [(1, 7, 0, 0, 8, 0), (1, 0, 0, 0, 8, 0), (2, 0, 7, 1, 0, 0)], 0, 0), (282, [(296, 7, 8, 0)])),
  (7, ([(1, 6, 0), (1, 7, 0), (0, 0, 0), (8, 0, 0), (8, 0, 0)], [(0, 0, 8), (0, 0, 0)], [(1, 7, 0, 0, 8, 0), (1, 0, 0, 0, 8, 0), (1, 3, 0, 0, 8, 0), (2, 0, 7, 1, 0, 0)], 0, 0), (281, [(296, 7, 8, 0)])),
  (10, ([(1, 6, 0), (1, 7, 0), (0, 0, 0), (8, 0, 0), (8, 0, 0)], [], [(1, 7, 0, 0, 7, 0)], 0, 0), (280, [(296, 7, 8, 0)])),
  (11, ([(1, 6, 0), (1, 7, 0), (0, 0, 0), (8, 0, 0), (8, 0, 0)], [(0, 0, 0)], [(1, 7, 0, 0, 7, 0), (1, 0, 0, 0, 0, 0)], 0, 0), (279, [(296, 7, 8, 0)])),
  (12, ([(1, 6, 0), (1, 7, 0), (0, 0, 0), (0, 0, 0), (8, 0, 0)], [], [(1, 7, 0, 0, 7, 0), (1, 10, 0, 0, 7, 0), (3, 10, 7, 1, 7, 0)], 0, 0), (26, [(296, 7, 8, 0), (36, 10, 7, 0)]))]
def kd_X6_countApart_d5e88f_1 : List (Nat × sf_D × sf_M) := [(13, ([(1, 6, 0), (1, 7, 0), (0, 0, 0), (0, 0, 0), (8, 0, 0)], [(0, 0, 0)], [(1, 7, 0, 0, 7, 0), (1, 10, 0, 0, 7, 0), (1, 0, 0, 0, 7, 0), (3, 10, 7, 1, 7, 0), (2, 0, 10, 1, 0, 0)], 0, 0), (25, [(296, 7, 8, 0), (36, 10, 7, 0)])),
  (14, ([(1, 6, 0), (1, 7, 0), (0, 0, 0), (0, 0, 0), (8, 0, 0)], [(0, 0, 0), (0, 0, 0)], [(1, 7, 0, 0, 7, 0), (1, 10, 0, 0, 7, 0), (1, 0, 0, 0, 7, 0), (1, 3, 0, 0, 7, 0), (3, 10, 7, 1, 7, 0), (2, 0, 10, 1, 0, 0), (2, 3, 7, 1, 0, 0)], 0, 0), (24, [(296, 7, 8, 0), (36, 10, 7, 0)])),
  (17, ([(1, 6, 0), (1, 7, 0), (0, 0, 0), (0, 0, 0), (8, 0, 0)], [], [(1, 7, 0, 1, 7, 0), (1, 10, 0, 0, 6, 0)], 0, 0), (23, [(296, 7, 8, 0), (36, 10, 7, 0)])),
  (18, ([(1, 6, 0), (1, 7, 0), (0, 0, 0), (0, 0, 0), (8, 0, 0)], [(0, 0, 0)], [(1, 7, 0, 1, 7, 0), (1, 10, 0, 0, 6, 0), (1, 0, 0, 1, 7, 0), (2, 0, 7, 1, 0, 0)], 0, 0), (22, [(296, 7, 8, 0), (36, 10, 7, 0)])),
  (20, ([(1, 6, 0), (1, 7, 0), (0, 0, 0), (0, 0, 0), (8, 0, 0)], [(0, 0, 0), (0, 0, 0)], [(1, 7, 0, 1, 7, 0), (1, 10, 0, 0, 6, 0), (1, 0, 0, 1, 7, 0), (1, 3, 0, 8, 8, 0), (2, 0, 7, 1, 0, 0)], 0, 0), (21, [(296, 7, 8, 0), (36, 10, 7, 0)])),
  (21, ([(1, 6, 0), (1, 7, 0), (0, 0, 0), (0, 0, 0), (8, 0, 0)], [(0, 0, 0)], [(1, 7, 0, 1, 7, 0), (1, 10, 0, 0, 6, 0), (1, 0, 0, 8, 56, 0), (2, 0, 7, 8, 0, 0)], 0, 0), (20, [(296, 7, 8, 0), (36, 10, 7, 0)]))]
def kd_X6_countApart_d5e88f_2 : List (Nat × sf_D × sf_M) := [(22, ([(1, 6, 0), (1, 7, 0), (0, 0, 0), (0, 0, 0), (8, 0, 0)], [(0, 0, 0), (0, 0, 0)], [(1, 7, 0, 1, 7, 0), (1, 10, 0, 0, 6, 0), (1, 0, 0, 8, 56, 0), (1, 3, 0, 0, 6, 0), (2, 0, 7, 8, 0, 0), (2, 3, 10, 1, 0, 0)], 0, 0), (19, [(296, 7, 8, 0), (36, 10, 7, 0)])),
  (23, ([(1, 6, 0), (1, 7, 0), (0, 0, 0), (0, 0, 0), (8, 0, 0)], [(0, 0, 0)], [(1, 7, 0, 1, 7, 0), (1, 10, 0, 0, 6, 0), (1, 0, 0, 8, 62, 0)], 0, 0), (18, [(296, 7, 8, 0), (36, 10, 7, 0)])),
  (25, ([(1, 6, 0), (1, 7, 0), (0, 0, 0), (0, 0, 0), (0, 0, 0)], [], [(1, 7, 0, 1, 7, 0), (1, 10, 0, 0, 6, 0), (1, 13, 0, 8, 62, 0)], 0, 0), (17, [(296, 7, 8, 0), (36, 10, 7, 0)])),
  (26, ([(1, 6, 0), (1, 7, 0), (0, 0, 0), (0, 0, 0), (0, 0, 0)], [(1, 6, 0)], [(1, 7, 0, 1, 7, 0), (1, 10, 0, 0, 6, 0), (1, 13, 0, 8, 62, 0)], 0, 0), (16, [(296, 7, 8, 0), (36, 10, 7, 0)])),
  (29, ([(1, 6, 0), (1, 7, 0), (0, 0, 0), (0, 0, 0), (0, 0, 0)], [(1, 153, 0)], [(1, 7, 0, 1, 7, 0), (1, 10, 0, 0, 6, 0), (1, 13, 0, 8, 62, 0)], 0, 0), (15, [(296, 7, 8, 0), (36, 10, 7, 0)])),
  (30, ([(1, 6, 0), (1, 7, 0), (0, 0, 0), (0, 0, 0), (0, 0, 0)], [(0, 0, 0), (1, 153, 0)], [(1, 7, 0, 1, 7, 0), (1, 10, 0, 0, 6, 0), (1, 13, 0, 8, 62, 0), (1, 3, 0, 1, 7, 0), (2, 3, 7, 1, 0, 0)], 0, 0), (14, [(296, 7, 8, 0), (36, 10, 7, 0)]))]
def kd_X6_countApart_d5e88f_3 : List (Nat × sf_D × sf_M) := [(31, ([(1, 6, 0), (1, 7, 0), (0, 0, 0), (0, 0, 0), (0, 0, 0)], [(0, 0, 0)], [(1, 7, 0, 1, 7, 0), (1, 10, 0, 0, 6, 0), (1, 13, 0, 8, 62, 0), (1, 0, 0, -2147483648, 2147483647, 0)], 0, 0), (13, [(296, 7, 8, 0), (36, 10, 7, 0)])),
  (32, ([(1, 6, 0), (1, 7, 0), (0, 0, 0), (0, 0, 0), (0, 0, 0)], [(1, 6, 0), (0, 0, 0)], [(1, 7, 0, 1, 7, 0), (1, 10, 0, 0, 6, 0), (1, 13, 0, 8, 62, 0), (1, 0, 0, -2147483648, 2147483647, 0)], 0, 0), (12, [(296, 7, 8, 0), (36, 10, 7, 0)])),
  (35, ([(1, 6, 0), (1, 7, 0), (0, 0, 0), (0, 0, 0), (0, 0, 0)], [(1, 153, 0), (0, 0, 0)], [(1, 7, 0, 1, 7, 0), (1, 10, 0, 0, 6, 0), (1, 13, 0, 8, 62, 0), (1, 0, 0, -2147483648, 2147483647, 0)], 0, 0), (11, [(296, 7, 8, 0), (36, 10, 7, 0)])),
  (36, ([(1, 6, 0), (1, 7, 0), (0, 0, 0), (0, 0, 0), (0, 0, 0)], [(0, 0, 0), (1, 153, 0), (0, 0, 0)], [(1, 7, 0, 1, 7, 0), (1, 10, 0, 0, 6, 0), (1, 13, 0, 8, 62, 0), (1, 0, 0, -2147483648, 2147483647, 0), (1, 6, 0, 0, 6, 0), (2, 6, 10, 1, 0, 0)], 0, 0), (10, [(296, 7, 8, 0), (36, 10, 7, 0)])),
  (37, ([(1, 6, 0), (1, 7, 0), (0, 0, 0), (0, 0, 0), (0, 0, 0)], [(0, 0, 0), (0, 0, 0)], [(1, 7, 0, 1, 7, 0), (1, 10, 0, 0, 6, 0), (1, 13, 0, 8, 62, 0), (1, 0, 0, -2147483648, 2147483647, 0), (1, 3, 0, -2147483648, 2147483647, 0)], 0, 0), (9, [(296, 7, 8, 0), (36, 10, 7, 0)])),
  (40, ([(1, 6, 0), (1, 7, 0), (0, 0, 0), (0, 0, 0), (0, 0, 0)], [], [(1, 7, 0, 1, 7, 0), (1, 10, 0, 0, 6, 0), (1, 13, 0, 8, 62, 0)], 0, 0), (6, [(296, 7, 8, 0), (36, 10, 7, 0)]))]
def kd_X6_countApart_d5e88f_4 : List (Nat × sf_D × sf_M) := [(41, ([(1, 6, 0), (1, 7, 0), (0, 0, 0), (0, 0, 0), (0, 0, 0)], [(1, 6, 0)], [(1, 7, 0, 1, 7, 0), (1, 10, 0, 0, 6, 0), (1, 13, 0, 8, 62, 0)], 0, 0), (5, [(296, 7, 8, 0), (36, 10, 7, 0)])),
  (44, ([(1, 6, 0), (1, 7, 0), (0, 0, 0), (0, 0, 0), (0, 0, 0)], [(1, 155, 0)], [(1, 7, 0, 1, 7, 0), (1, 10, 0, 0, 6, 0), (1, 13, 0, 8, 62, 0)], 0, 0), (4, [(296, 7, 8, 0), (36, 10, 7, 0)])),
  (46, ([(1, 6, 0), (1, 7, 0), (0, 0, 0), (0, 0, 0), (0, 0, 0)], [(0, 0, 0), (1, 155, 0)], [(1, 7, 0, 1, 7, 0), (1, 10, 0, 0, 6, 0), (1, 13, 0, 8, 62, 0), (1, 3, 0, 8, 62, 0), (2, 3, 13, 1, 0, 0)], 0, 0), (3, [(296, 7, 8, 0), (36, 10, 7, 0)])),
  (47, ([(1, 6, 0), (1, 7, 0), (0, 0, 0), (0, 0, 0), (0, 0, 0)], [(0, 0, 0), (0, 0, 0), (1, 155, 0)], [(1, 7, 0, 1, 7, 0), (1, 10, 0, 0, 6, 0), (1, 13, 0, 8, 62, 0), (1, 3, 0, 8, 62, 0), (1, 6, 0, 0, 0, 0), (2, 3, 13, 1, 0, 0)], 0, 0), (2, [(296, 7, 8, 0), (36, 10, 7, 0)])),
  (48, ([(1, 6, 0), (1, 7, 0), (0, 0, 0), (0, 0, 0), (0, 0, 0)], [], [(1, 7, 0, 1, 7, 0), (1, 10, 0, 0, 6, 0), (1, 13, 0, 8, 62, 0)], 0, 0), (1, [(296, 7, 8, 0), (36, 10, 7, 0)])),
  (51, ([(1, 6, 0), (1, 7, 0), (0, 0, 0), (0, 0, 0), (0, 0, 0)], [], [(1, 7, 0, 1, 7, 0), (1, 10, 0, 0, 6, 0), (1, 13, 0, 8, 62, 0)], 0, 0), (8, [(296, 7, 8, 0), (36, 10, 7, 0)])),
  (52, ([(1, 6, 0), (1, 7, 0), (0, 0, 0), (0, 0, 0), (0, 0, 0)], [(1, 6, 0)], [(1, 7, 0, 1, 7, 0), (1, 10, 0, 0, 6, 0), (1, 13, 0, 8, 62, 0)], 0, 0), (7, [(296, 7, 8, 0), (36, 10, 7, 0)]))]
def kd_X6_countApart_d5e88f_5 : List (Nat × sf_D × sf_M) := [(55, ([(1, 6, 0), (1, 7, 0), (0, 0, 0), (0, 0, 0), (0, 0, 0)], [(1, 155, 0)], [(1, 7, 0, 1, 7, 0), (1, 10, 0, 0, 6, 0), (1, 13, 0, 8, 62, 0)], 0, 0), (6, [(296, 7, 8, 0), (36, 10, 7, 0)])),
  (57, ([(1, 6, 0), (1, 7, 0), (0, 0, 0), (0, 0, 0), (0, 0, 0)], [(0, 0, 0), (1, 155, 0)], [(1, 7, 0, 1, 7, 0), (1, 10, 0, 0, 6, 0), (1, 13, 0, 8, 62, 0), (1, 3, 0, 8, 62, 0), (2, 3, 13, 1, 0, 0)], 0, 0), (5, [(296, 7, 8, 0), (36, 10, 7, 0)])),
  (58, ([(1, 6, 0), (1, 7, 0), (0, 0, 0), (0, 0, 0), (0, 0, 0)], [(0, 0, 0), (1, 155, 0), (0, 0, 0), (1, 155, 0)], [(1, 7, 0, 1, 7, 0), (1, 10, 0, 0, 6, 0), (1, 13, 0, 8, 62, 0), (1, 3, 0, 8, 62, 0), (1, 9, 0, 8, 62, 0), (2, 3, 13, 1, 0, 0), (2, 9, 3, 1, 0, 0)], 0, 0), (4, [(296, 7, 8, 0), (36, 10, 7, 0)])),
  (59, ([(1, 6, 0), (1, 7, 0), (0, 0, 0), (0, 0, 0), (0, 0, 0)], [(0, 0, 0), (0, 0, 0), (1, 155, 0)], [(1, 7, 0, 1, 7, 0), (1, 10, 0, 0, 6, 0), (1, 13, 0, 8, 62, 0), (1, 3, 0, 8, 62, 0), (1, 6, 0, -2147483648, 2147483647, 0), (2, 3, 13, 1, 0, 0)], 0, 0), (3, [(296, 7, 8, 0), (36, 10, 7, 0)])),
  (60, ([(1, 6, 0), (1, 7, 0), (0, 0, 0), (0, 0, 0), (0, 0, 0)], [(0, 0, 0), (0, 0, 0), (0, 0, 0), (1, 155, 0)], [(1, 7, 0, 1, 7, 0), (1, 10, 0, 0, 6, 0), (1, 13, 0, 8, 62, 0), (1, 3, 0, 8, 62, 0), (1, 6, 0, -2147483648, 2147483647, 0), (1, 9, 0, 1, 1, 0), (2, 3, 13, 1, 0, 0)], 0, 0), (2, [(296, 7, 8, 0), (36, 10, 7, 0)]))]
def kd_X6_countApart_d5e88f_6 : List (Nat × sf_D × sf_M) := [(61, ([(1, 6, 0), (1, 7, 0), (0, 0, 0), (0, 0, 0), (0, 0, 0)], [(0, 0, 0), (0, 0, 0), (1, 155, 0)], [(1, 7, 0, 1, 7, 0), (1, 10, 0, 0, 6, 0), (1, 13, 0, 8, 62, 0), (1, 3, 0, 8, 62, 0), (1, 6, 0, -2147483648, 2147483647, 0), (2, 3, 13, 1, 0, 0)], 0, 0), (1, [(296, 7, 8, 0), (36, 10, 7, 0)])),
  (62, ([(1, 6, 0), (1, 7, 0), (0, 0, 0), (0, 0, 0), (0, 0, 0)], [], [(1, 7, 0, 1, 7, 0), (1, 10, 0, 0, 6, 0), (1, 13, 0, 8, 62, 0)], 0, 0), (0, [(296, 7, 8, 0), (36, 10, 7, 0)])),
  (65, ([(1, 6, 0), (1, 7, 0), (0, 0, 0), (0, 0, 0), (0, 0, 0)], [], [(1, 7, 0, 1, 7, 0), (1, 13, 0, 8, 62, 0), (1, 10, 0, 1, 7, 0)], 0, 0), (27, [(296, 7, 8, 0), (36, 10, 7, 0)])),
  (68, ([(1, 6, 0), (1, 7, 0), (0, 0, 0), (0, 0, 0), (8, 0, 0)], [], [(1, 7, 0, 0, 7, 0), (1, 10, 0, 0, 7, 0)], 0, 0), (0, [(296, 7, 8, 0)])),
  (71, ([(1, 6, 0), (1, 7, 0), (0, 0, 0), (0, 0, 0), (8, 0, 0)], [], [(1, 10, 0, 0, 7, 0), (1, 7, 0, 1, 8, 0)], 0, 0), (285, [(296, 7, 8, 0)])),
  (74, ([(1, 6, 0), (1, 7, 0), (0, 0, 0), (8, 0, 0), (8, 0, 0)], [], [(1, 7, 0, 0, 8, 0)], 0, 0), (0, []))]
def kd_X6_countApart_d5e88f : List (Nat × sf_D × sf_M) := kd_X6_countApart_d5e88f_0 ++ (kd_X6_countApart_d5e88f_1 ++ (kd_X6_countApart_d5e88f_2 ++ (kd_X6_countApart_d5e88f_3 ++ (kd_X6_countApart_d5e88f_4 ++ (kd_X6_countApart_d5e88f_5 ++ (kd_X6_countApart_d5e88f_6))))))
set_option maxRecDepth 100000 in
theorem kt_X6_countApart_d5e88f : sf_chk [] kq_X6_countApart_d5e88f 5 kc_X6_countApart_d5e88f kd_X6_countApart_d5e88f = true := by decide +kernel
set_option maxRecDepth 100000 in
theorem kl_X6_countApart_d5e88f : (kc_X6_countApart_d5e88f).map (fun c => (c.1, sf_den ([] : List sf_X) c.2)) = L_X6_countApart := rfl
theorem ct_X6_countApart_d5e88f : sf_ct kq_X6_countApart_d5e88f Z_X6_countApart := by
  have h := sf_meth (K := []) (E := []) (k := kq_X6_countApart_d5e88f) (nL := 5) (C := kc_X6_countApart_d5e88f) (D := kd_X6_countApart_d5e88f) (fun m k hk => match m, hk with
    | _ + 0, hk => (by cases hk)) kt_X6_countApart_d5e88f
  rw [kl_X6_countApart_d5e88f] at h
  exact h
def kq_X1_passDays_6 : sf_Q := ([(1, 1, 0), (1, 7, 0), (1, 6, 0), (0, 0, 0)], [], some (0, 0, 0), [(1, 0, 0, -400, 400, 0)], [(1, 2, 3), (6, 7, 9), (100, 0, 5), (101, 0, 5), (149, 0, 11), (151, 0, 11), (152, 0, 11), (153, 0, 7), (154, 0, 7), (155, 0, 63)])
set_option maxRecDepth 100000 in
set_option maxHeartbeats 4000000 in
theorem ct_X1_passDays_6 : sf_ct kq_X1_passDays_6 Z_X1_passDays := by
  intro t hp as H hl hj hpre
  match as, hl with
  | [v0, v1, v2, v3], _ =>
    obtain ⟨a0, rfl, ra0⟩ := bs_aR (hj 0 _ rfl)
    obtain rfl := ra0.eq H (p := 7) rfl
    obtain ⟨a1, rfl, ra1⟩ := bs_aR (hj 1 _ rfl)
    obtain ⟨a2, rfl, ra2⟩ := bs_aR (hj 2 _ rfl)
    obtain rfl := ra2.eq H (p := 12) rfl
    obtain ⟨x3, rfl⟩ := bs_aI (hj 3 _ rfl)
    have rg3 := n_range x3
    clear hpre hj
    have F0 : sf_fr [(1, 2, 3), (6, 7, 9), (100, 0, 5), (101, 0, 5), (149, 0, 11), (151, 0, 11), (152, 0, 11), (153, 0, 7), (154, 0, 7), (155, 0, 63)] t hp t hp := sf_fr_rf
    refine bs_fin (K := kq_X1_passDays_6) (L := (L_X1_passDays Z_X1_plan Z_X1_carry Z_X6_makeAndEat Z_X6_countApart)) (nL := 6) (Nat.le_of_ble_eq_true rfl) ?_
    obtain ⟨Q, hQ⟩ : ∃ Q : ab_O → Prop, Q = (fun o => ∃ t', sf_h t' o.2 ∧ sf_fr (kq_X1_passDays_6).2.2.2.2 t hp t' o.2 ∧ sf_an t' o.2.1 (kq_X1_passDays_6).2.2.1 o.1 ∧ sf_S (sf_v1 o.1 [.ref 7, .ref a1, .ref 12, .int x3] o.2) (kq_X1_passDays_6).2.2.2.1) := ⟨_, rfl⟩
    rw [← hQ]
    refine (show Ev (ab_T (L_X1_passDays Z_X1_plan Z_X1_carry Z_X6_makeAndEat Z_X6_countApart)) 0 ([some (.ref 7), some (.ref a1), some (.ref 12), some (.int x3), none, none], [], (0, 0), hp) Q from ?_)
    obtain ⟨G, hG, lG, uG⟩ := bs_fld (k := 8) H (ra1.fr F0) (by decide) rfl
    obtain ⟨M, hM, lM, uM⟩ := bs_fld (k := 9) H (ra1.fr F0) (by decide) rfl
    refine Ev.step (j := 1) (s' := ([some (.ref 7), some (.ref a1), some (.ref 12), some (.int x3), none, none], [.ref 12], (0, 0), hp)) rfl rfl ?_
    exact by
     refine bs_getI 6 rfl rfl rfl H (bs_R.uq H (g := 6) rfl) (by decide) rfl fun z1 hz1 lz1 gz1 => ?_
     refine Ev.step (j := 6) (s' := ([some (.ref 7), some (.ref a1), some (.ref 12), some (.int x3), some (.int z1), none], [], (0, 0), hp)) rfl rfl ?_
     refine bs_lit (k := 0) rfl rfl fun z2 hz2 => ?_
     refine Ev.step (j := 9) (s' := ([some (.ref 7), some (.ref a1), some (.ref 12), some (.int x3), some (.int z1), some (.int z2)], [], (0, 0), hp)) rfl rfl ?_
     refine bs_loop (ι := Int32 × ab_H × (Nat → Nat)) (fun ⟨k3, hp4, t5⟩ => ([some (.ref 7), some (.ref a1), some (.ref 12), some (.int x3), some (.int z1), some (.int k3)], [], (0, 0), hp4)) (fun ⟨k3, hp4, t5⟩ => (sf_h t5 hp4) ∧ (sf_fr [(1, 2, 3), (6, 7, 9), (100, 0, 5), (101, 0, 5), (149, 0, 11), (151, 0, 11), (152, 0, 11), (153, 0, 7), (154, 0, 7), (155, 0, 63)] t hp t5 hp4) ∧ (0 ≤ k3.toInt) ∧ (k3.toInt ≤ max 0 x3.toInt)) (fun ⟨k3, hp4, t5⟩ => (x3.toInt - k3.toInt).toNat) ?_ (z2, hp, t) ⟨H, F0, (by first | omega | assumption), (by first | omega | assumption)⟩
     rintro ⟨k3, hp4, t5⟩ ⟨Hhp4, Fhp4, i7, i8⟩ ih6
     refine (show Ev _ 9 ([some (.ref 7), some (.ref a1), some (.ref 12), some (.int x3), some (.int z1), some (.int k3)], [], (0, 0), hp4) _ from ?_)
     refine Ev.step (j := 11) (s' := ([some (.ref 7), some (.ref a1), some (.ref 12), some (.int x3), some (.int z1), some (.int k3)], [.int k3], (0, 0), hp4)) rfl rfl ?_
     exact by
      refine Ev.step (j := 12) (s' := ([some (.ref 7), some (.ref a1), some (.ref 12), some (.int x3), some (.int z1), some (.int k3)], [.int x3, .int k3], (0, 0), hp4)) rfl rfl ?_
      refine bs_ge rfl (fun c9 => ?_) (fun c9 => ?_)
      · skip
        refine Ev.step (j := 64) (s' := ([some (.ref 7), some (.ref a1), some (.ref 12), some (.int x3), some (.int z1), some (.int k3)], [.ref 12], (0, 0), hp4)) rfl rfl ?_
        refine bs_getI 6 rfl rfl rfl Hhp4 (bs_R.uq Hhp4 (g := 6) rfl) (by decide) rfl fun z10 hz10 lz10 gz10 => ?_
        refine Ev.step (j := 69) (s' := ([some (.ref 7), some (.ref a1), some (.ref 12), some (.int x3), some (.int z1), some (.int k3)], [.int z1, .int z10], (0, 0), hp4)) rfl rfl ?_
        first | (refine bs_sub rfl (by omega) (by omega) fun z11 hz11 => ?_) | (refine bs_any rfl fun z11 => ?_)
        have rz11 := n_range z11
        exact Ev.ret rfl rfl (by rw [hQ]; exact ⟨t5, Hhp4, Fhp4, bs_an0, sf_S_cons (sf_s1 (x := z11.toInt) rfl (by omega) (by omega)) (sf_S_nil)⟩)
      · skip
        refine Ev.step (j := 16) (s' := ([some (.ref 7), some (.ref a1), some (.ref 12), some (.int x3), some (.int z1), some (.int k3)], [.ref 12], (0, 0), hp4)) rfl rfl ?_
        exact by
         refine bs_getI 6 rfl rfl rfl Hhp4 (bs_R.uq Hhp4 (g := 6) rfl) (by decide) rfl fun z12 hz12 lz12 gz12 => ?_
         refine bs_lit (k := 400) rfl rfl fun z13 hz13 => ?_
         refine bs_ge rfl (fun c14 => ?_) (fun c14 => ?_)
         · skip
           refine Ev.step (j := 64) (s' := ([some (.ref 7), some (.ref a1), some (.ref 12), some (.int x3), some (.int z1), some (.int k3)], [.ref 12], (0, 0), hp4)) rfl rfl ?_
           refine bs_getI 6 rfl rfl rfl Hhp4 (bs_R.uq Hhp4 (g := 6) rfl) (by decide) rfl fun z15 hz15 lz15 gz15 => ?_
           have e16 : z15.toInt = z12.toInt := Option.some.inj (hz15.symm.trans hz12)
           refine Ev.step (j := 69) (s' := ([some (.ref 7), some (.ref a1), some (.ref 12), some (.int x3), some (.int z1), some (.int k3)], [.int z1, .int z15], (0, 0), hp4)) rfl rfl ?_
           first | (refine bs_sub rfl (by omega) (by omega) fun z17 hz17 => ?_) | (refine bs_any rfl fun z17 => ?_)
           have rz17 := n_range z17
           exact Ev.ret rfl rfl (by rw [hQ]; exact ⟨t5, Hhp4, Fhp4, bs_an0, sf_S_cons (sf_s1 (x := z17.toInt) rfl (by omega) (by omega)) (sf_S_nil)⟩)
         · skip
           refine Ev.step (j := 26) (s' := ([some (.ref 7), some (.ref a1), some (.ref 12), some (.int x3), some (.int z1), some (.int k3)], [.ref 7], (0, 0), hp4)) rfl rfl ?_
           exact by
            refine Ev.step (j := 27) (s' := ([some (.ref 7), some (.ref a1), some (.ref 12), some (.int x3), some (.int z1), some (.int k3)], [.ref a1, .ref 7], (0, 0), hp4)) rfl rfl ?_
            refine Ev.step (j := 28) (s' := ([some (.ref 7), some (.ref a1), some (.ref 12), some (.int x3), some (.int z1), some (.int k3)], [.ref 12, .ref a1, .ref 7], (0, 0), hp4)) rfl rfl ?_
            refine Ev.inl (L := (L_X1_plan Z_X6_ferryShore Z_X6_allMissed Z_X10_slotOf Z_X6_lackAt Z_X1_amountMoved)) (nL := 8) rfl (bs_rcv (g := 1) Hhp4 (bs_R.uq Hhp4 (g := 1) rfl) (by decide) rfl) rfl (Nat.le_of_ble_eq_true rfl) ?_
            generalize hQ18 : (fun (o : ab_O) => Ev _ _ _ _) = Q18
            refine (show Ev (ab_T (L_X1_plan Z_X6_ferryShore Z_X6_allMissed Z_X10_slotOf Z_X6_lackAt Z_X1_amountMoved)) 0 ([some (.ref 7), some (.ref a1), some (.ref 12), none, none, none, none, none], [], (0, 0), hp4) Q18 from ?_)
            refine Ev.step (j := 1) (s' := ([some (.ref 7), some (.ref a1), some (.ref 12), none, none, none, none, none], [.ref 12], (0, 0), hp4)) rfl rfl ?_
            refine Ev.inl (L := L_X6_ferryShore) (nL := 1) rfl (bs_rcv (g := 6) Hhp4 (bs_R.uq Hhp4 (g := 6) rfl) (by decide) rfl) rfl (Nat.le_of_ble_eq_true rfl) ?_
            generalize hQ19 : (fun (o : ab_O) => Ev _ _ _ _) = Q19
            refine (show Ev (ab_T L_X6_ferryShore) 0 ([some (.ref 12)], [], (0, 0), hp4) Q19 from ?_)
            refine Ev.step (j := 1) (s' := ([some (.ref 12)], [.ref 12], (0, 0), hp4)) rfl rfl ?_
            exact by
             refine bs_getI 6 rfl rfl rfl Hhp4 (bs_R.uq Hhp4 (g := 6) rfl) (by decide) rfl fun z20 hz20 lz20 gz20 => ?_
             have e21 : z20.toInt = z12.toInt := Option.some.inj (hz20.symm.trans hz12)
             refine bs_lit (k := 2) rfl rfl fun z22 hz22 => ?_
             refine bs_rem 2 rfl hz22 (by decide) (by omega) fun z23 hz23 => ?_
             refine Ev.ret rfl rfl ?_
             rw [← hQ19]
             refine (show Ev _ 4 ([some (.ref 7), some (.ref a1), some (.ref 12), none, none, none, none, none], [.int z23], (0, 0), hp4) _ from ?_)
             refine Ev.step (j := 5) (s' := ([some (.ref 7), some (.ref a1), some (.ref 12), some (.int z23), none, none, none, none], [], (0, 0), hp4)) rfl rfl ?_
             obtain ⟨fr, hfr⟩ : ∃ n : Nat, (n : Int) = z23.toInt := ⟨z23.toInt.toNat, by omega⟩
             refine Ev.step (j := 6) (s' := ([some (.ref 7), some (.ref a1), some (.ref 12), some (.int z23), none, none, none, none], [.ref 12], (0, 0), hp4)) rfl rfl ?_
             exact by
              refine bs_getI 6 rfl rfl rfl Hhp4 (bs_R.uq Hhp4 (g := 6) rfl) (by decide) rfl fun z24 hz24 lz24 gz24 => ?_
              have e25 : z24.toInt = z12.toInt := Option.some.inj (hz24.symm.trans hz12)
              refine bs_lit (k := 400) rfl rfl fun z26 hz26 => ?_
              refine bs_ge rfl (fun c27 => ?_) (fun c27 => ?_)
              · exfalso; omega
              · skip
                refine Ev.step (j := 16) (s' := ([some (.ref 7), some (.ref a1), some (.ref 12), some (.int z23), none, none, none, none], [.ref a1], (0, 0), hp4)) rfl rfl ?_
                refine bs_getI 7 rfl rfl rfl Hhp4 (ra1.fr Fhp4) (by decide) rfl fun z28 hz28 lz28 gz28 => ?_
                refine Ev.step (j := 23) (s' := ([some (.ref 7), some (.ref a1), some (.ref 12), some (.int z23), none, none, none, none], [.int z28], (0, 0), hp4)) rfl rfl ?_
                refine Ev.step (j := 25) (s' := ([some (.ref 7), some (.ref a1), some (.ref 12), some (.int z23), some (.int z28), none, none, none], [], (0, 0), hp4)) rfl rfl ?_
                exact by
                 refine Ev.step (j := 26) (s' := ([some (.ref 7), some (.ref a1), some (.ref 12), some (.int z23), some (.int z28), none, none, none], [.ref 7], (0, 0), hp4)) rfl rfl ?_
                 refine bs_lit (k := 0) rfl rfl fun z29 hz29 => ?_
                 refine bs_putI (W := [(1, 3, 3)]) (g := 1) rfl rfl Hhp4 (bs_R.uq Hhp4 (g := 1) rfl) (by decide) rfl rfl rfl rfl (Or.inl rfl) (by omega) (by omega) fun hp30 Hhp30 fhp30 rhp30 ehp30 qhp30 nhp30 => ?_
                 have Fhp30 := sf_fr_tr Fhp4 (sf_fr_wider (W := [(1, 2, 3), (6, 7, 9), (100, 0, 5), (101, 0, 5), (149, 0, 11), (151, 0, 11), (152, 0, 11), (153, 0, 7), (154, 0, 7), (155, 0, 63)]) rfl fhp30)
                 have h31 : sf_rd hp30 12 7 = some z12.toInt := (ehp30 _ _ (Or.inl (by decide))).trans hz12
                 have h32 : sf_rd hp30 a1 7 = some z28.toInt := (ehp30 _ _ (Or.inl (bs_nq (ra1.fr Fhp4) (bs_R.uq Hhp4 (g := 1) rfl) (by decide)))).trans hz28
                 refine Ev.step (j := 31) (s' := ([some (.ref 7), some (.ref a1), some (.ref 12), some (.int z23), some (.int z28), none, none, none], [.ref 7], (0, 0), hp30)) rfl rfl ?_
                 refine bs_lit (k := 0) rfl rfl fun z33 hz33 => ?_
                 exact by
                  refine bs_putI (W := [(1, 2, 2)]) (g := 1) rfl rfl Hhp30 (bs_R.uq Hhp30 (g := 1) rfl) (by decide) rfl rfl rfl rfl (Or.inl rfl) (by omega) (by omega) fun hp34 Hhp34 fhp34 rhp34 ehp34 qhp34 nhp34 => ?_
                  have Fhp34 := sf_fr_tr Fhp30 (sf_fr_wider (W := [(1, 2, 3), (6, 7, 9), (100, 0, 5), (101, 0, 5), (149, 0, 11), (151, 0, 11), (152, 0, 11), (153, 0, 7), (154, 0, 7), (155, 0, 63)]) rfl fhp34)
                  have h35 : sf_rd hp34 12 7 = some z12.toInt := (ehp34 _ _ (Or.inl (by decide))).trans h31
                  have h36 : sf_rd hp34 a1 7 = some z28.toInt := (ehp34 _ _ (Or.inl (bs_nq (ra1.fr Fhp30) (bs_R.uq Hhp30 (g := 1) rfl) (by decide)))).trans h32
                  have h37 : sf_rd hp34 7 3 = some z29.toInt := (ehp34 _ _ (Or.inr (by omega))).trans rhp30
                  refine Ev.step (j := 36) (s' := ([some (.ref 7), some (.ref a1), some (.ref 12), some (.int z23), some (.int z28), none, none, none], [.ref 12], (0, 0), hp34)) rfl rfl ?_
                  refine Ev.step (j := 37) (s' := ([some (.ref 7), some (.ref a1), some (.ref 12), some (.int z23), some (.int z28), none, none, none], [.ref a1, .ref 12], (0, 0), hp34)) rfl rfl ?_
                  refine bs_call (K := kq_X6_allMissed_d5e88f) [.ref 12, .ref a1] [] rfl ct_X6_allMissed_d5e88f Hhp34 rfl rfl rfl (bs_rcv (g := 6) Hhp34 (bs_R.uq Hhp34 (g := 6) rfl) (by decide) rfl) rfl ?_ (sf_S_nil) fun r38 hp39 thp39 Hhp39 fhp39 ahp39 php39 => ?_
                  · intro q k h
                    match q, h with
                    | 0, h => cases h; exact bs_jR (bs_R.uq Hhp34 (g := 6) rfl)
                    | 1, h => cases h; exact bs_jR (ra1.fr Fhp34)
                    | q + 2, h => cases h
                  obtain ⟨z40, rfl⟩ := bs_anI ahp39
                  have rgz40 := n_range z40
                  have Fhp39 := sf_fr_tr Fhp34 (sf_fr_wider (W := [(1, 2, 3), (6, 7, 9), (100, 0, 5), (101, 0, 5), (149, 0, 11), (151, 0, 11), (152, 0, 11), (153, 0, 7), (154, 0, 7), (155, 0, 63)]) rfl fhp39)
                  have h41 : sf_rd hp39 12 7 = some z12.toInt := (fhp39.2.2.1 _ (bs_R.uq Hhp34 (g := 6) (p := 12) rfl).1 _ (by rw [(bs_R.uq Hhp34 (g := 6) (p := 12) rfl).2]; rfl)).trans h35
                  have h42 : sf_rd hp39 a1 7 = some z28.toInt := (fhp39.2.2.1 _ (ra1.fr Fhp34).1 _ (by rw [(ra1.fr Fhp34).2]; rfl)).trans h36
                  have h43 : sf_rd hp39 7 3 = some z29.toInt := (fhp39.2.2.1 _ (bs_R.uq Hhp34 (g := 1) (p := 7) rfl).1 _ (by rw [(bs_R.uq Hhp34 (g := 1) (p := 7) rfl).2]; rfl)).trans h37
                  have h44 : sf_rd hp39 7 2 = some z33.toInt := (fhp39.2.2.1 _ (bs_R.uq Hhp34 (g := 1) (p := 7) rfl).1 _ (by rw [(bs_R.uq Hhp34 (g := 1) (p := 7) rfl).2]; rfl)).trans rhp34
                  refine (show Ev _ 40 ([some (.ref 7), some (.ref a1), some (.ref 12), some (.int z23), some (.int z28), none, none, none], [.int z40], (0, 0), hp39) _ from ?_)
                  exact by
                   refine Ev.step (j := 42) (s' := ([some (.ref 7), some (.ref a1), some (.ref 12), some (.int z23), some (.int z28), some (.int z40), none, none], [], (0, 0), hp39)) rfl rfl ?_
                   refine bs_lit (k := 0) rfl rfl fun z45 hz45 => ?_
                   refine Ev.step (j := 45) (s' := ([some (.ref 7), some (.ref a1), some (.ref 12), some (.int z23), some (.int z28), some (.int z40), some (.int z45), none], [], (0, 0), hp39)) rfl rfl ?_
                   refine bs_loop (ι := Int32 × ab_H × (Nat → Nat)) (fun ⟨k46, hp47, t48⟩ => ([some (.ref 7), some (.ref a1), some (.ref 12), some (.int z23), some (.int z28), some (.int z40), some (.int k46), none], [], (0, 0), hp47)) (fun ⟨k46, hp47, t48⟩ => (sf_h t48 hp47) ∧ (sf_fr [(1, 2, 3), (6, 7, 9), (100, 0, 5), (101, 0, 5), (149, 0, 11), (151, 0, 11), (152, 0, 11), (153, 0, 7), (154, 0, 7), (155, 0, 63)] t hp t48 hp47) ∧ (sf_rd hp47 12 7 = some z12.toInt) ∧ (0 ≤ k46.toInt ∧ k46.toInt ≤ 8)) (fun ⟨k46, hp47, t48⟩ => (8 - k46.toInt).toNat) ?_ (z45, hp39, thp39) ⟨Hhp39, Fhp39, h41, (by first | omega | assumption)⟩
                   rintro ⟨k46, hp47, t48⟩ ⟨Hhp47, Fhp47, i50, i51⟩ ih49
                   refine (show Ev _ 45 ([some (.ref 7), some (.ref a1), some (.ref 12), some (.int z23), some (.int z28), some (.int z40), some (.int k46), none], [], (0, 0), hp47) _ from ?_)
                   refine Ev.step (j := 47) (s' := ([some (.ref 7), some (.ref a1), some (.ref 12), some (.int z23), some (.int z28), some (.int z40), some (.int k46), none], [.int k46], (0, 0), hp47)) rfl rfl ?_
                   refine Ev.step (j := 48) (s' := ([some (.ref 7), some (.ref a1), some (.ref 12), some (.int z23), some (.int z28), some (.int z40), some (.int k46), none], [.ref a1, .int k46], (0, 0), hp47)) rfl rfl ?_
                   exact by
                    refine bs_getI 7 rfl rfl rfl Hhp47 (ra1.fr Fhp47) (by decide) rfl fun z52 hz52 lz52 gz52 => ?_
                    have e53 : z52.toInt = M := Option.some.inj (hz52.symm.trans ((Fhp47.2.2.1 _ ra1.1 _ (by rw [ra1.2]; rfl)).trans hM))
                    refine bs_ge rfl (fun c54 => ?_) (fun c54 => ?_)
                    · skip
                      refine bs_lit (k := 0) rfl rfl fun z55 hz55 => ?_
                      refine Ev.step (j := 118) (s' := ([some (.ref 7), some (.ref a1), some (.ref 12), some (.int z23), some (.int z28), some (.int z40), some (.int z55), none], [], (0, 0), hp47)) rfl rfl ?_
                      refine bs_loop (ι := Int32 × (Option Value) × ab_H × (Nat → Nat)) (fun ⟨k56, o59, hp57, t58⟩ => ([some (.ref 7), some (.ref a1), some (.ref 12), some (.int z23), some (.int z28), some (.int z40), some (.int k56), o59], [], (0, 0), hp57)) (fun ⟨k56, o59, hp57, t58⟩ => (sf_h t58 hp57) ∧ (sf_fr [(1, 2, 3), (6, 7, 9), (100, 0, 5), (101, 0, 5), (149, 0, 11), (151, 0, 11), (152, 0, 11), (153, 0, 7), (154, 0, 7), (155, 0, 63)] t hp t58 hp57) ∧ (sf_rd hp57 12 7 = some z12.toInt) ∧ (0 ≤ k56.toInt ∧ k56.toInt ≤ 6) ∧ (∀ q : Nat, (q : Int) < k56.toInt → fr_ok hp57 13 fr q)) (fun ⟨k56, o59, hp57, t58⟩ => (6 - k56.toInt).toNat) ?_ (z55, none, hp47, t48) ⟨Hhp47, Fhp47, i50, (by first | omega | assumption), (by first | exact FQ | exact fun q hq => absurd hq (by omega))⟩
                      rintro ⟨k56, o59, hp57, t58⟩ ⟨Hhp57, Fhp57, i61, i62, i63⟩ ih60
                      refine (show Ev _ 118 ([some (.ref 7), some (.ref a1), some (.ref 12), some (.int z23), some (.int z28), some (.int z40), some (.int k56), o59], [], (0, 0), hp57) _ from ?_)
                      exact by
                       refine Ev.step (j := 120) (s' := ([some (.ref 7), some (.ref a1), some (.ref 12), some (.int z23), some (.int z28), some (.int z40), some (.int k56), o59], [.int k56], (0, 0), hp57)) rfl rfl ?_
                       refine Ev.step (j := 121) (s' := ([some (.ref 7), some (.ref a1), some (.ref 12), some (.int z23), some (.int z28), some (.int z40), some (.int k56), o59], [.ref a1, .int k56], (0, 0), hp57)) rfl rfl ?_
                       refine bs_getI 7 rfl rfl rfl Hhp57 (ra1.fr Fhp57) (by decide) rfl fun z64 hz64 lz64 gz64 => ?_
                       have e65 : z64.toInt = G := Option.some.inj (hz64.symm.trans ((Fhp57.2.2.1 _ ra1.1 _ (by rw [ra1.2]; rfl)).trans hG))
                       refine bs_ge rfl (fun c66 => ?_) (fun c66 => ?_)
                       · skip
                         have FR : ∀ q : Nat, (q : Int) < G → fr_ok hp57 13 fr q := fun q hq => i63 q (by omega)
                         refine Ev.ret rfl rfl ?_
                         rw [← hQ18]
                         refine (show Ev _ 31 ([some (.ref 7), some (.ref a1), some (.ref 12), some (.int x3), some (.int z1), some (.int k3)], [], (0, 0), hp57) _ from ?_)
                         exact by
                          refine Ev.step (j := 32) (s' := ([some (.ref 7), some (.ref a1), some (.ref 12), some (.int x3), some (.int z1), some (.int k3)], [.ref 7], (0, 0), hp57)) rfl rfl ?_
                          refine Ev.step (j := 33) (s' := ([some (.ref 7), some (.ref a1), some (.ref 12), some (.int x3), some (.int z1), some (.int k3)], [.ref a1, .ref 7], (0, 0), hp57)) rfl rfl ?_
                          refine Ev.step (j := 34) (s' := ([some (.ref 7), some (.ref a1), some (.ref 12), some (.int x3), some (.int z1), some (.int k3)], [.ref 12, .ref a1, .ref 7], (0, 0), hp57)) rfl rfl ?_
                          refine Ev.inl (L := (L_X1_carry Z_X6_ferryShore Z_X10_slotOf)) (nL := 5) rfl (bs_rcv (g := 1) Hhp57 (bs_R.uq Hhp57 (g := 1) rfl) (by decide) rfl) rfl (Nat.le_of_ble_eq_true rfl) ?_
                          generalize hQ67 : (fun (o : ab_O) => Ev _ _ _ _) = Q67
                          refine (show Ev (ab_T (L_X1_carry Z_X6_ferryShore Z_X10_slotOf)) 0 ([some (.ref 7), some (.ref a1), some (.ref 12), none, none], [], (0, 0), hp57) Q67 from ?_)
                          refine Ev.step (j := 1) (s' := ([some (.ref 7), some (.ref a1), some (.ref 12), none, none], [.ref 12], (0, 0), hp57)) rfl rfl ?_
                          refine Ev.inl (L := L_X6_ferryShore) (nL := 1) rfl (bs_rcv (g := 6) Hhp57 (bs_R.uq Hhp57 (g := 6) rfl) (by decide) rfl) rfl (Nat.le_of_ble_eq_true rfl) ?_
                          generalize hQ68 : (fun (o : ab_O) => Ev _ _ _ _) = Q68
                          refine (show Ev (ab_T L_X6_ferryShore) 0 ([some (.ref 12)], [], (0, 0), hp57) Q68 from ?_)
                          exact by
                           refine Ev.step (j := 1) (s' := ([some (.ref 12)], [.ref 12], (0, 0), hp57)) rfl rfl ?_
                           refine bs_getI 6 rfl rfl rfl Hhp57 (bs_R.uq Hhp57 (g := 6) rfl) (by decide) rfl fun z69 hz69 lz69 gz69 => ?_
                           have e70 : z69.toInt = z12.toInt := Option.some.inj (hz69.symm.trans i61)
                           refine bs_lit (k := 2) rfl rfl fun z71 hz71 => ?_
                           refine bs_rem 2 rfl hz71 (by decide) (by omega) fun z72 hz72 => ?_
                           refine Ev.ret rfl rfl ?_
                           rw [← hQ68]
                           refine (show Ev _ 4 ([some (.ref 7), some (.ref a1), some (.ref 12), none, none], [.int z72], (0, 0), hp57) _ from ?_)
                           refine Ev.step (j := 5) (s' := ([some (.ref 7), some (.ref a1), some (.ref 12), some (.int z72), none], [], (0, 0), hp57)) rfl rfl ?_
                           exact by
                            refine bs_lit (k := 0) rfl rfl fun z73 hz73 => ?_
                            refine Ev.step (j := 8) (s' := ([some (.ref 7), some (.ref a1), some (.ref 12), some (.int z72), some (.int z73)], [], (0, 0), hp57)) rfl rfl ?_
                            refine bs_loop (ι := Int32 × ab_H × (Nat → Nat)) (fun ⟨k74, hp75, t76⟩ => ([some (.ref 7), some (.ref a1), some (.ref 12), some (.int z72), some (.int k74)], [], (0, 0), hp75)) (fun ⟨k74, hp75, t76⟩ => (sf_h t76 hp75) ∧ (sf_fr [(1, 2, 3), (6, 7, 9), (100, 0, 5), (101, 0, 5), (149, 0, 11), (151, 0, 11), (152, 0, 11), (153, 0, 7), (154, 0, 7), (155, 0, 63)] t hp t76 hp75) ∧ (sf_rd hp75 12 7 = some z12.toInt) ∧ (0 ≤ k74.toInt ∧ k74.toInt ≤ 8) ∧ (∀ q : Nat, (q : Int) < G → fr_ok hp75 13 fr q)) (fun ⟨k74, hp75, t76⟩ => (8 - k74.toInt).toNat) ?_ (z73, hp57, t58) ⟨Hhp57, Fhp57, i61, (by first | omega | assumption), (by first | exact FR2 | exact FR)⟩
                            rintro ⟨k74, hp75, t76⟩ ⟨Hhp75, Fhp75, i78, i79, i80⟩ ih77
                            refine (show Ev _ 8 ([some (.ref 7), some (.ref a1), some (.ref 12), some (.int z72), some (.int k74)], [], (0, 0), hp75) _ from ?_)
                            refine Ev.step (j := 10) (s' := ([some (.ref 7), some (.ref a1), some (.ref 12), some (.int z72), some (.int k74)], [.int k74], (0, 0), hp75)) rfl rfl ?_
                            refine Ev.step (j := 11) (s' := ([some (.ref 7), some (.ref a1), some (.ref 12), some (.int z72), some (.int k74)], [.ref a1, .int k74], (0, 0), hp75)) rfl rfl ?_
                            refine bs_getI 7 rfl rfl rfl Hhp75 (ra1.fr Fhp75) (by decide) rfl fun z81 hz81 lz81 gz81 => ?_
                            have e82 : z81.toInt = M := Option.some.inj (hz81.symm.trans ((Fhp75.2.2.1 _ ra1.1 _ (by rw [ra1.2]; rfl)).trans hM))
                            refine bs_ge rfl (fun c83 => ?_) (fun c83 => ?_)
                            · skip
                              refine bs_lit (k := 0) rfl rfl fun z84 hz84 => ?_
                              exact by
                               refine Ev.step (j := 59) (s' := ([some (.ref 7), some (.ref a1), some (.ref 12), some (.int z72), some (.int z84)], [], (0, 0), hp75)) rfl rfl ?_
                               refine bs_loop (ι := Int32 × ab_H × (Nat → Nat)) (fun ⟨k85, hp86, t87⟩ => ([some (.ref 7), some (.ref a1), some (.ref 12), some (.int z72), some (.int k85)], [], (0, 0), hp86)) (fun ⟨k85, hp86, t87⟩ => (sf_h t87 hp86) ∧ (sf_fr [(1, 2, 3), (6, 7, 9), (100, 0, 5), (101, 0, 5), (149, 0, 11), (151, 0, 11), (152, 0, 11), (153, 0, 7), (154, 0, 7), (155, 0, 63)] t hp t87 hp86) ∧ (sf_rd hp86 12 7 = some z12.toInt) ∧ (0 ≤ k85.toInt ∧ k85.toInt ≤ 6) ∧ (∀ q : Nat, k85.toInt ≤ (q : Int) → (q : Int) < G → fr_ok hp86 13 fr q)) (fun ⟨k85, hp86, t87⟩ => (6 - k85.toInt).toNat) ?_ (z84, hp75, t76) ⟨Hhp75, Fhp75, i78, (by first | omega | assumption), (by first | exact FR3 | exact fun q _ hq => i80 q hq)⟩
                               rintro ⟨k85, hp86, t87⟩ ⟨Hhp86, Fhp86, i89, i90, i91⟩ ih88
                               refine (show Ev _ 59 ([some (.ref 7), some (.ref a1), some (.ref 12), some (.int z72), some (.int k85)], [], (0, 0), hp86) _ from ?_)
                               refine Ev.step (j := 61) (s' := ([some (.ref 7), some (.ref a1), some (.ref 12), some (.int z72), some (.int k85)], [.int k85], (0, 0), hp86)) rfl rfl ?_
                               refine Ev.step (j := 62) (s' := ([some (.ref 7), some (.ref a1), some (.ref 12), some (.int z72), some (.int k85)], [.ref a1, .int k85], (0, 0), hp86)) rfl rfl ?_
                               refine bs_getI 7 rfl rfl rfl Hhp86 (ra1.fr Fhp86) (by decide) rfl fun z92 hz92 lz92 gz92 => ?_
                               have e93 : z92.toInt = G := Option.some.inj (hz92.symm.trans ((Fhp86.2.2.1 _ ra1.1 _ (by rw [ra1.2]; rfl)).trans hG))
                               refine bs_ge rfl (fun c94 => ?_) (fun c94 => ?_)
                               · skip
                                 refine Ev.step (j := 142) (s' := ([some (.ref 7), some (.ref a1), some (.ref 12), some (.int z72), some (.int k85)], [.ref 12], (0, 0), hp86)) rfl rfl ?_
                                 exact by
                                  refine Ev.step (j := 143) (s' := ([some (.ref 7), some (.ref a1), some (.ref 12), some (.int z72), some (.int k85)], [.ref 12, .ref 12], (0, 0), hp86)) rfl rfl ?_
                                  refine bs_getI 6 rfl rfl rfl Hhp86 (bs_R.uq Hhp86 (g := 6) rfl) (by decide) rfl fun z95 hz95 lz95 gz95 => ?_
                                  refine Ev.step (j := 147) (s' := ([some (.ref 7), some (.ref a1), some (.ref 12), some (.int z72), some (.int k85)], [.ref 7, .int z95, .ref 12], (0, 0), hp86)) rfl rfl ?_
                                  refine bs_getI 1 rfl rfl rfl Hhp86 (bs_R.uq Hhp86 (g := 1) rfl) (by decide) rfl fun z96 hz96 lz96 gz96 => ?_
                                  first | (refine bs_add rfl (by omega) (by omega) fun z97 hz97 => ?_) | (refine bs_any rfl fun z97 => ?_)
                                  have rz97 := n_range z97
                                  refine bs_putI (W := [(6, 9, 9)]) (g := 6) rfl rfl Hhp86 (bs_R.uq Hhp86 (g := 6) rfl) (by decide) rfl rfl rfl rfl (Or.inl rfl) (by omega) (by omega) fun hp98 Hhp98 fhp98 rhp98 ehp98 qhp98 nhp98 => ?_
                                  have Fhp98 := sf_fr_tr Fhp86 (sf_fr_wider (W := [(1, 2, 3), (6, 7, 9), (100, 0, 5), (101, 0, 5), (149, 0, 11), (151, 0, 11), (152, 0, 11), (153, 0, 7), (154, 0, 7), (155, 0, 63)]) rfl fhp98)
                                  have h99 : sf_rd hp98 12 7 = some z12.toInt := (ehp98 _ _ (Or.inr (by omega))).trans i89
                                  have h100 : sf_rd hp98 a1 8 = some z92.toInt := (ehp98 _ _ (Or.inl (bs_nq (ra1.fr Fhp86) (bs_R.uq Hhp86 (g := 6) rfl) (by decide)))).trans hz92
                                  have h101 : sf_rd hp98 7 3 = some z96.toInt := (ehp98 _ _ (Or.inl (by decide))).trans hz96
                                  refine Ev.step (j := 155) (s' := ([some (.ref 7), some (.ref a1), some (.ref 12), some (.int z72), some (.int k85)], [.ref 7], (0, 0), hp98)) rfl rfl ?_
                                  exact by
                                   refine bs_getI 1 rfl rfl rfl Hhp98 (bs_R.uq Hhp98 (g := 1) rfl) (by decide) rfl fun z102 hz102 lz102 gz102 => ?_
                                   have e103 : z102.toInt = z96.toInt := Option.some.inj (hz102.symm.trans h101)
                                   refine bs_ifne rfl (fun c104 => ?_) (fun c104 => ?_)
                                   · skip
                                     refine Ev.ret rfl rfl ?_
                                     rw [← hQ67]
                                     refine (show Ev _ 37 ([some (.ref 7), some (.ref a1), some (.ref 12), some (.int x3), some (.int z1), some (.int k3)], [], (0, 0), hp98) _ from ?_)
                                     refine Ev.step (j := 38) (s' := ([some (.ref 7), some (.ref a1), some (.ref 12), some (.int x3), some (.int z1), some (.int k3)], [.ref 12], (0, 0), hp98)) rfl rfl ?_
                                     refine Ev.step (j := 39) (s' := ([some (.ref 7), some (.ref a1), some (.ref 12), some (.int x3), some (.int z1), some (.int k3)], [.ref a1, .ref 12], (0, 0), hp98)) rfl rfl ?_
                                     refine bs_call (K := kq_X6_makeAndEat_d5e88f) [.ref 12, .ref a1] [] rfl ct_X6_makeAndEat_d5e88f Hhp98 rfl rfl rfl (bs_rcv (g := 6) Hhp98 (bs_R.uq Hhp98 (g := 6) rfl) (by decide) rfl) rfl ?_ (sf_S_nil) fun r105 hp106 thp106 Hhp106 fhp106 ahp106 php106 => ?_
                                     · intro q k h
                                       match q, h with
                                       | 0, h => cases h; exact bs_jR (bs_R.uq Hhp98 (g := 6) rfl)
                                       | 1, h => cases h; exact bs_jR (ra1.fr Fhp98)
                                       | q + 2, h => cases h
                                     obtain rfl := ahp106.1 rfl
                                     have Fhp106 := sf_fr_tr Fhp98 (sf_fr_wider (W := [(1, 2, 3), (6, 7, 9), (100, 0, 5), (101, 0, 5), (149, 0, 11), (151, 0, 11), (152, 0, 11), (153, 0, 7), (154, 0, 7), (155, 0, 63)]) rfl fhp106)
                                     have h107 : sf_rd hp106 12 7 = some z12.toInt := (fhp106.2.2.1 _ (bs_R.uq Hhp98 (g := 6) (p := 12) rfl).1 _ (by rw [(bs_R.uq Hhp98 (g := 6) (p := 12) rfl).2]; rfl)).trans h99
                                     have h108 : sf_rd hp106 a1 8 = some z92.toInt := (fhp106.2.2.1 _ (ra1.fr Fhp98).1 _ (by rw [(ra1.fr Fhp98).2]; rfl)).trans h100
                                     have h109 : sf_rd hp106 7 3 = some z96.toInt := (fhp106.2.2.1 _ (bs_R.uq Hhp98 (g := 1) (p := 7) rfl).1 _ (by rw [(bs_R.uq Hhp98 (g := 1) (p := 7) rfl).2]; rfl)).trans h101
                                     have h110 : sf_rd hp106 12 9 = some z97.toInt := (fhp106.2.2.1 _ (bs_R.uq Hhp98 (g := 6) (p := 12) rfl).1 _ (by rw [(bs_R.uq Hhp98 (g := 6) (p := 12) rfl).2]; rfl)).trans rhp98
                                     refine (show Ev _ 42 ([some (.ref 7), some (.ref a1), some (.ref 12), some (.int x3), some (.int z1), some (.int k3)], [], (0, 0), hp106) _ from ?_)
                                     exact by
                                      refine Ev.step (j := 43) (s' := ([some (.ref 7), some (.ref a1), some (.ref 12), some (.int x3), some (.int z1), some (.int k3)], [.ref 12], (0, 0), hp106)) rfl rfl ?_
                                      refine Ev.step (j := 44) (s' := ([some (.ref 7), some (.ref a1), some (.ref 12), some (.int x3), some (.int z1), some (.int k3)], [.ref a1, .ref 12], (0, 0), hp106)) rfl rfl ?_
                                      refine bs_call (K := kq_X6_countApart_d5e88f) [.ref 12, .ref a1] [] rfl ct_X6_countApart_d5e88f Hhp106 rfl rfl rfl (bs_rcv (g := 6) Hhp106 (bs_R.uq Hhp106 (g := 6) rfl) (by decide) rfl) rfl ?_ (sf_S_nil) fun r111 hp112 thp112 Hhp112 fhp112 ahp112 php112 => ?_
                                      · intro q k h
                                        match q, h with
                                        | 0, h => cases h; exact bs_jR (bs_R.uq Hhp106 (g := 6) rfl)
                                        | 1, h => cases h; exact bs_jR (ra1.fr Fhp106)
                                        | q + 2, h => cases h
                                      obtain rfl := ahp112.1 rfl
                                      have Fhp112 := sf_fr_tr Fhp106 (sf_fr_wider (W := [(1, 2, 3), (6, 7, 9), (100, 0, 5), (101, 0, 5), (149, 0, 11), (151, 0, 11), (152, 0, 11), (153, 0, 7), (154, 0, 7), (155, 0, 63)]) rfl fhp112)
                                      have h113 : sf_rd hp112 12 7 = some z12.toInt := (fhp112.2.2.1 _ (bs_R.uq Hhp106 (g := 6) (p := 12) rfl).1 _ (by rw [(bs_R.uq Hhp106 (g := 6) (p := 12) rfl).2]; rfl)).trans h107
                                      have h114 : sf_rd hp112 a1 8 = some z92.toInt := (fhp112.2.2.1 _ (ra1.fr Fhp106).1 _ (by rw [(ra1.fr Fhp106).2]; rfl)).trans h108
                                      have h115 : sf_rd hp112 7 3 = some z96.toInt := (fhp112.2.2.1 _ (bs_R.uq Hhp106 (g := 1) (p := 7) rfl).1 _ (by rw [(bs_R.uq Hhp106 (g := 1) (p := 7) rfl).2]; rfl)).trans h109
                                      have h116 : sf_rd hp112 12 9 = some z97.toInt := (fhp112.2.2.1 _ (bs_R.uq Hhp106 (g := 6) (p := 12) rfl).1 _ (by rw [(bs_R.uq Hhp106 (g := 6) (p := 12) rfl).2]; rfl)).trans h110
                                      refine (show Ev _ 47 ([some (.ref 7), some (.ref a1), some (.ref 12), some (.int x3), some (.int z1), some (.int k3)], [], (0, 0), hp112) _ from ?_)
                                      exact by
                                       refine Ev.step (j := 48) (s' := ([some (.ref 7), some (.ref a1), some (.ref 12), some (.int x3), some (.int z1), some (.int k3)], [.ref 12], (0, 0), hp112)) rfl rfl ?_
                                       refine Ev.step (j := 49) (s' := ([some (.ref 7), some (.ref a1), some (.ref 12), some (.int x3), some (.int z1), some (.int k3)], [.ref 12, .ref 12], (0, 0), hp112)) rfl rfl ?_
                                       refine bs_getI 6 rfl rfl rfl Hhp112 (bs_R.uq Hhp112 (g := 6) rfl) (by decide) rfl fun z117 hz117 lz117 gz117 => ?_
                                       have e118 : z117.toInt = z12.toInt := Option.some.inj (hz117.symm.trans h113)
                                       refine bs_lit (k := 1) rfl rfl fun z119 hz119 => ?_
                                       first | (refine bs_add rfl (by omega) (by omega) fun z120 hz120 => ?_) | (refine bs_any rfl fun z120 => ?_)
                                       have rz120 := n_range z120
                                       refine bs_putI (W := [(6, 7, 7)]) (g := 6) rfl rfl Hhp112 (bs_R.uq Hhp112 (g := 6) rfl) (by decide) rfl rfl rfl rfl (Or.inl rfl) (by omega) (by omega) fun hp121 Hhp121 fhp121 rhp121 ehp121 qhp121 nhp121 => ?_
                                       have Fhp121 := sf_fr_tr Fhp112 (sf_fr_wider (W := [(1, 2, 3), (6, 7, 9), (100, 0, 5), (101, 0, 5), (149, 0, 11), (151, 0, 11), (152, 0, 11), (153, 0, 7), (154, 0, 7), (155, 0, 63)]) rfl fhp121)
                                       have h122 : sf_rd hp121 a1 8 = some z92.toInt := (ehp121 _ _ (Or.inl (bs_nq (ra1.fr Fhp112) (bs_R.uq Hhp112 (g := 6) rfl) (by decide)))).trans h114
                                       have h123 : sf_rd hp121 7 3 = some z96.toInt := (ehp121 _ _ (Or.inl (by decide))).trans h115
                                       have h124 : sf_rd hp121 12 9 = some z97.toInt := (ehp121 _ _ (Or.inr (by omega))).trans h116
                                       refine bs_iinc (1) rfl rfl rfl rfl (by omega) (by omega) fun z125 hz125 => ?_
                                       exact by
                                        refine (show Ev _ 60 ([some (.ref 7), some (.ref a1), some (.ref 12), some (.int x3), some (.int z1), some (.int z125)], [], (0, 0), hp121) _ from ?_)
                                        refine Ev.step (j := 9) (s' := ([some (.ref 7), some (.ref a1), some (.ref 12), some (.int x3), some (.int z1), some (.int z125)], [], (0, 0), hp121)) rfl rfl ?_
                                        refine ih6 (z125, hp121, thp112) ⟨Hhp121, Fhp121, (by first | omega | assumption), (by first | omega | assumption)⟩ ?_
                                        show (x3.toInt - z125.toInt).toNat < (x3.toInt - k3.toInt).toNat
                                        omega
                                   · skip
                                     have c126 : z102.toInt = 0 := by omega
                                     refine Ev.step (j := 162) (s' := ([some (.ref 7), some (.ref a1), some (.ref 12), some (.int z72), some (.int k85)], [.ref 12], (0, 0), hp98)) rfl rfl ?_
                                     exact by
                                      refine Ev.step (j := 163) (s' := ([some (.ref 7), some (.ref a1), some (.ref 12), some (.int z72), some (.int k85)], [.ref 12, .ref 12], (0, 0), hp98)) rfl rfl ?_
                                      refine bs_getI 6 rfl rfl rfl Hhp98 (bs_R.uq Hhp98 (g := 6) rfl) (by decide) rfl fun z127 hz127 lz127 gz127 => ?_
                                      refine bs_lit (k := 1) rfl rfl fun z128 hz128 => ?_
                                      first | (refine bs_add rfl (by omega) (by omega) fun z129 hz129 => ?_) | (refine bs_any rfl fun z129 => ?_)
                                      have rz129 := n_range z129
                                      refine bs_putI (W := [(6, 8, 8)]) (g := 6) rfl rfl Hhp98 (bs_R.uq Hhp98 (g := 6) rfl) (by decide) rfl rfl rfl rfl (Or.inl rfl) (by omega) (by omega) fun hp130 Hhp130 fhp130 rhp130 ehp130 qhp130 nhp130 => ?_
                                      have Fhp130 := sf_fr_tr Fhp98 (sf_fr_wider (W := [(1, 2, 3), (6, 7, 9), (100, 0, 5), (101, 0, 5), (149, 0, 11), (151, 0, 11), (152, 0, 11), (153, 0, 7), (154, 0, 7), (155, 0, 63)]) rfl fhp130)
                                      have h131 : sf_rd hp130 12 7 = some z12.toInt := (ehp130 _ _ (Or.inr (by omega))).trans h99
                                      have h132 : sf_rd hp130 a1 8 = some z92.toInt := (ehp130 _ _ (Or.inl (bs_nq (ra1.fr Fhp98) (bs_R.uq Hhp98 (g := 6) rfl) (by decide)))).trans h100
                                      have h133 : sf_rd hp130 7 3 = some z96.toInt := (ehp130 _ _ (Or.inl (by decide))).trans h101
                                      have h134 : sf_rd hp130 12 9 = some z97.toInt := (ehp130 _ _ (Or.inr (by omega))).trans rhp98
                                      refine Ev.ret rfl rfl ?_
                                      rw [← hQ67]
                                      refine (show Ev _ 37 ([some (.ref 7), some (.ref a1), some (.ref 12), some (.int x3), some (.int z1), some (.int k3)], [], (0, 0), hp130) _ from ?_)
                                      exact by
                                       refine Ev.step (j := 38) (s' := ([some (.ref 7), some (.ref a1), some (.ref 12), some (.int x3), some (.int z1), some (.int k3)], [.ref 12], (0, 0), hp130)) rfl rfl ?_
                                       refine Ev.step (j := 39) (s' := ([some (.ref 7), some (.ref a1), some (.ref 12), some (.int x3), some (.int z1), some (.int k3)], [.ref a1, .ref 12], (0, 0), hp130)) rfl rfl ?_
                                       refine bs_call (K := kq_X6_makeAndEat_d5e88f) [.ref 12, .ref a1] [] rfl ct_X6_makeAndEat_d5e88f Hhp130 rfl rfl rfl (bs_rcv (g := 6) Hhp130 (bs_R.uq Hhp130 (g := 6) rfl) (by decide) rfl) rfl ?_ (sf_S_nil) fun r135 hp136 thp136 Hhp136 fhp136 ahp136 php136 => ?_
                                       · intro q k h
                                         match q, h with
                                         | 0, h => cases h; exact bs_jR (bs_R.uq Hhp130 (g := 6) rfl)
                                         | 1, h => cases h; exact bs_jR (ra1.fr Fhp130)
                                         | q + 2, h => cases h
                                       obtain rfl := ahp136.1 rfl
                                       have Fhp136 := sf_fr_tr Fhp130 (sf_fr_wider (W := [(1, 2, 3), (6, 7, 9), (100, 0, 5), (101, 0, 5), (149, 0, 11), (151, 0, 11), (152, 0, 11), (153, 0, 7), (154, 0, 7), (155, 0, 63)]) rfl fhp136)
                                       have h137 : sf_rd hp136 12 7 = some z12.toInt := (fhp136.2.2.1 _ (bs_R.uq Hhp130 (g := 6) (p := 12) rfl).1 _ (by rw [(bs_R.uq Hhp130 (g := 6) (p := 12) rfl).2]; rfl)).trans h131
                                       have h138 : sf_rd hp136 a1 8 = some z92.toInt := (fhp136.2.2.1 _ (ra1.fr Fhp130).1 _ (by rw [(ra1.fr Fhp130).2]; rfl)).trans h132
                                       have h139 : sf_rd hp136 7 3 = some z96.toInt := (fhp136.2.2.1 _ (bs_R.uq Hhp130 (g := 1) (p := 7) rfl).1 _ (by rw [(bs_R.uq Hhp130 (g := 1) (p := 7) rfl).2]; rfl)).trans h133
                                       have h140 : sf_rd hp136 12 9 = some z97.toInt := (fhp136.2.2.1 _ (bs_R.uq Hhp130 (g := 6) (p := 12) rfl).1 _ (by rw [(bs_R.uq Hhp130 (g := 6) (p := 12) rfl).2]; rfl)).trans h134
                                       have h141 : sf_rd hp136 12 8 = some z129.toInt := (fhp136.2.2.1 _ (bs_R.uq Hhp130 (g := 6) (p := 12) rfl).1 _ (by rw [(bs_R.uq Hhp130 (g := 6) (p := 12) rfl).2]; rfl)).trans rhp130
                                       refine (show Ev _ 42 ([some (.ref 7), some (.ref a1), some (.ref 12), some (.int x3), some (.int z1), some (.int k3)], [], (0, 0), hp136) _ from ?_)
                                       exact by
                                        refine Ev.step (j := 43) (s' := ([some (.ref 7), some (.ref a1), some (.ref 12), some (.int x3), some (.int z1), some (.int k3)], [.ref 12], (0, 0), hp136)) rfl rfl ?_
                                        refine Ev.step (j := 44) (s' := ([some (.ref 7), some (.ref a1), some (.ref 12), some (.int x3), some (.int z1), some (.int k3)], [.ref a1, .ref 12], (0, 0), hp136)) rfl rfl ?_
                                        refine bs_call (K := kq_X6_countApart_d5e88f) [.ref 12, .ref a1] [] rfl ct_X6_countApart_d5e88f Hhp136 rfl rfl rfl (bs_rcv (g := 6) Hhp136 (bs_R.uq Hhp136 (g := 6) rfl) (by decide) rfl) rfl ?_ (sf_S_nil) fun r142 hp143 thp143 Hhp143 fhp143 ahp143 php143 => ?_
                                        · intro q k h
                                          match q, h with
                                          | 0, h => cases h; exact bs_jR (bs_R.uq Hhp136 (g := 6) rfl)
                                          | 1, h => cases h; exact bs_jR (ra1.fr Fhp136)
                                          | q + 2, h => cases h
                                        obtain rfl := ahp143.1 rfl
                                        have Fhp143 := sf_fr_tr Fhp136 (sf_fr_wider (W := [(1, 2, 3), (6, 7, 9), (100, 0, 5), (101, 0, 5), (149, 0, 11), (151, 0, 11), (152, 0, 11), (153, 0, 7), (154, 0, 7), (155, 0, 63)]) rfl fhp143)
                                        have h144 : sf_rd hp143 12 7 = some z12.toInt := (fhp143.2.2.1 _ (bs_R.uq Hhp136 (g := 6) (p := 12) rfl).1 _ (by rw [(bs_R.uq Hhp136 (g := 6) (p := 12) rfl).2]; rfl)).trans h137
                                        have h145 : sf_rd hp143 a1 8 = some z92.toInt := (fhp143.2.2.1 _ (ra1.fr Fhp136).1 _ (by rw [(ra1.fr Fhp136).2]; rfl)).trans h138
                                        have h146 : sf_rd hp143 7 3 = some z96.toInt := (fhp143.2.2.1 _ (bs_R.uq Hhp136 (g := 1) (p := 7) rfl).1 _ (by rw [(bs_R.uq Hhp136 (g := 1) (p := 7) rfl).2]; rfl)).trans h139
                                        have h147 : sf_rd hp143 12 9 = some z97.toInt := (fhp143.2.2.1 _ (bs_R.uq Hhp136 (g := 6) (p := 12) rfl).1 _ (by rw [(bs_R.uq Hhp136 (g := 6) (p := 12) rfl).2]; rfl)).trans h140
                                        have h148 : sf_rd hp143 12 8 = some z129.toInt := (fhp143.2.2.1 _ (bs_R.uq Hhp136 (g := 6) (p := 12) rfl).1 _ (by rw [(bs_R.uq Hhp136 (g := 6) (p := 12) rfl).2]; rfl)).trans h141
                                        refine (show Ev _ 47 ([some (.ref 7), some (.ref a1), some (.ref 12), some (.int x3), some (.int z1), some (.int k3)], [], (0, 0), hp143) _ from ?_)
                                        exact by
                                         refine Ev.step (j := 48) (s' := ([some (.ref 7), some (.ref a1), some (.ref 12), some (.int x3), some (.int z1), some (.int k3)], [.ref 12], (0, 0), hp143)) rfl rfl ?_
                                         refine Ev.step (j := 49) (s' := ([some (.ref 7), some (.ref a1), some (.ref 12), some (.int x3), some (.int z1), some (.int k3)], [.ref 12, .ref 12], (0, 0), hp143)) rfl rfl ?_
                                         refine bs_getI 6 rfl rfl rfl Hhp143 (bs_R.uq Hhp143 (g := 6) rfl) (by decide) rfl fun z149 hz149 lz149 gz149 => ?_
                                         have e150 : z149.toInt = z12.toInt := Option.some.inj (hz149.symm.trans h144)
                                         refine bs_lit (k := 1) rfl rfl fun z151 hz151 => ?_
                                         first | (refine bs_add rfl (by omega) (by omega) fun z152 hz152 => ?_) | (refine bs_any rfl fun z152 => ?_)
                                         have rz152 := n_range z152
                                         refine bs_putI (W := [(6, 7, 7)]) (g := 6) rfl rfl Hhp143 (bs_R.uq Hhp143 (g := 6) rfl) (by decide) rfl rfl rfl rfl (Or.inl rfl) (by omega) (by omega) fun hp153 Hhp153 fhp153 rhp153 ehp153 qhp153 nhp153 => ?_
                                         have Fhp153 := sf_fr_tr Fhp143 (sf_fr_wider (W := [(1, 2, 3), (6, 7, 9), (100, 0, 5), (101, 0, 5), (149, 0, 11), (151, 0, 11), (152, 0, 11), (153, 0, 7), (154, 0, 7), (155, 0, 63)]) rfl fhp153)
                                         have h154 : sf_rd hp153 a1 8 = some z92.toInt := (ehp153 _ _ (Or.inl (bs_nq (ra1.fr Fhp143) (bs_R.uq Hhp143 (g := 6) rfl) (by decide)))).trans h145
                                         have h155 : sf_rd hp153 7 3 = some z96.toInt := (ehp153 _ _ (Or.inl (by decide))).trans h146
                                         have h156 : sf_rd hp153 12 9 = some z97.toInt := (ehp153 _ _ (Or.inr (by omega))).trans h147
                                         have h157 : sf_rd hp153 12 8 = some z129.toInt := (ehp153 _ _ (Or.inr (by omega))).trans h148
                                         refine bs_iinc (1) rfl rfl rfl rfl (by omega) (by omega) fun z158 hz158 => ?_
                                         exact by
                                          refine (show Ev _ 60 ([some (.ref 7), some (.ref a1), some (.ref 12), some (.int x3), some (.int z1), some (.int z158)], [], (0, 0), hp153) _ from ?_)
                                          refine Ev.step (j := 9) (s' := ([some (.ref 7), some (.ref a1), some (.ref 12), some (.int x3), some (.int z1), some (.int z158)], [], (0, 0), hp153)) rfl rfl ?_
                                          refine ih6 (z158, hp153, thp143) ⟨Hhp153, Fhp153, (by first | omega | assumption), (by first | omega | assumption)⟩ ?_
                                          show (x3.toInt - z158.toInt).toNat < (x3.toInt - k3.toInt).toNat
                                          omega
                               · skip
                                 obtain ⟨fv, xv, yv, hfv, hxv, hyv, f0, f1, f2⟩ := i91 k85.toInt.toNat (by omega) (by omega)
                                 refine Ev.step (j := 69) (s' := ([some (.ref 7), some (.ref a1), some (.ref 12), some (.int z72), some (.int k85)], [.ref 12], (0, 0), hp86)) rfl rfl ?_
                                 exact by
                                  refine bs_getU (g := 6) (g1 := 149) rfl rfl Hhp86 (bs_R.uq Hhp86 (g := 6) rfl) (by decide) rfl rfl ?_
                                  refine Ev.step (j := 74) (s' := ([some (.ref 7), some (.ref a1), some (.ref 12), some (.int z72), some (.int k85)], [.int k85, .ref 13], (0, 0), hp86)) rfl rfl ?_
                                  refine Ev.step (j := 75) (s' := ([some (.ref 7), some (.ref a1), some (.ref 12), some (.int z72), some (.int k85)], [.int z72, .int k85, .ref 13], (0, 0), hp86)) rfl rfl ?_
                                  refine Ev.inlS (L := L_X10_slotOf) (nL := 2) rfl rfl (Nat.le_of_ble_eq_true rfl) ?_
                                  generalize hQ159 : (fun (o : ab_O) => Ev _ _ _ _) = Q159
                                  refine (show Ev (ab_T L_X10_slotOf) 0 ([some (.int k85), some (.int z72)], [], (0, 0), hp86) Q159 from ?_)
                                  refine bs_lit (k := 2) rfl rfl fun z160 hz160 => ?_
                                  refine Ev.step (j := 2) (s' := ([some (.int k85), some (.int z72)], [.int k85, .int z160], (0, 0), hp86)) rfl rfl ?_
                                  refine bs_mul (2) rfl (Or.inl hz160) (by rw [hz160]; omega) (by rw [hz160]; omega) fun z161 hz161 => ?_
                                  rw [hz160] at hz161
                                  refine Ev.step (j := 4) (s' := ([some (.int k85), some (.int z72)], [.int z72, .int z161], (0, 0), hp86)) rfl rfl ?_
                                  first | (refine bs_add rfl (by omega) (by omega) fun z162 hz162 => ?_) | (refine bs_any rfl fun z162 => ?_)
                                  have rz162 := n_range z162
                                  refine Ev.ret rfl rfl ?_
                                  rw [← hQ159]
                                  refine (show Ev _ 78 ([some (.ref 7), some (.ref a1), some (.ref 12), some (.int z72), some (.int k85)], [.int z162, .ref 13], (0, 0), hp86) _ from ?_)
                                  exact by
                                   refine Ev.step (j := 79) (s' := ([some (.ref 7), some (.ref a1), some (.ref 12), some (.int z72), some (.int k85)], [.int z162, .ref 13, .int z162, .ref 13], (0, 0), hp86)) rfl rfl ?_
                                   refine bs_ld (g := 149) 0 11 (0, 999) rfl Hhp86 (bs_R.uq Hhp86 (g := 149) rfl) (by decide) rfl (by decide) (by decide) rfl (by decide) (by omega) (by omega) fun z163 hz163 lz163 gz163 => ?_
                                   dsimp only at lz163 gz163
                                   have exv : z163.toInt = xv := Option.some.inj ((bs_at hz163 (show _ = 2 * k85.toInt.toNat + fr by omega)).symm.trans hxv)
                                   refine Ev.step (j := 81) (s' := ([some (.ref 7), some (.ref a1), some (.ref 12), some (.int z72), some (.int k85)], [.ref 7, .int z163, .int z162, .ref 13], (0, 0), hp86)) rfl rfl ?_
                                   refine bs_getU (g := 1) (g1 := 100) rfl rfl Hhp86 (bs_R.uq Hhp86 (g := 1) rfl) (by decide) rfl rfl ?_
                                   refine Ev.step (j := 86) (s' := ([some (.ref 7), some (.ref a1), some (.ref 12), some (.int z72), some (.int k85)], [.int k85, .ref 8, .int z163, .int z162, .ref 13], (0, 0), hp86)) rfl rfl ?_
                                   refine bs_ld (g := 100) 0 5 (-2147483648, 2147483647) rfl Hhp86 (bs_R.uq Hhp86 (g := 100) rfl) (by decide) rfl (by decide) (by decide) rfl (by decide) (by omega) (by omega) fun z164 hz164 lz164 gz164 => ?_
                                   dsimp only at lz164 gz164
                                   have e165 : z164.toInt = fv := Option.some.inj (hz164.symm.trans hfv)
                                   first | (refine bs_sub rfl (by omega) (by omega) fun z166 hz166 => ?_) | (refine bs_any rfl fun z166 => ?_)
                                   have rz166 := n_range z166
                                   refine bs_st (W := [(149, 0, 11)]) (g := 149) 0 11 (0, 999) rfl Hhp86 (bs_R.uq Hhp86 (g := 149) rfl) (by decide) rfl rfl (by decide) rfl rfl (by omega) (by omega) (by dsimp only; omega) (by dsimp only; omega) fun hp167 Hhp167 fhp167 rhp167 ehp167 qhp167 nhp167 => ?_
                                   have Fhp167 := sf_fr_tr Fhp86 (sf_fr_wider (W := [(1, 2, 3), (6, 7, 9), (100, 0, 5), (101, 0, 5), (149, 0, 11), (151, 0, 11), (152, 0, 11), (153, 0, 7), (154, 0, 7), (155, 0, 63)]) rfl fhp167)
                                   have h168 : sf_rd hp167 12 7 = some z12.toInt := (ehp167 _ _ (Or.inl (by decide))).trans i89
                                   have h169 : sf_rd hp167 a1 8 = some z92.toInt := (ehp167 _ _ (Or.inl (bs_nq (ra1.fr Fhp86) (bs_R.uq Hhp86 (g := 149) rfl) (by decide)))).trans hz92
                                   have h170 : sf_rd hp167 8 k85.toInt.toNat = some fv := (ehp167 _ _ (Or.inl (by decide))).trans hfv
                                   refine Ev.step (j := 90) (s' := ([some (.ref 7), some (.ref a1), some (.ref 12), some (.int z72), some (.int k85)], [.ref 12], (0, 0), hp167)) rfl rfl ?_
                                   exact by
                                    refine bs_getU (g := 6) (g1 := 149) rfl rfl Hhp167 (bs_R.uq Hhp167 (g := 6) rfl) (by decide) rfl rfl ?_
                                    refine Ev.step (j := 95) (s' := ([some (.ref 7), some (.ref a1), some (.ref 12), some (.int z72), some (.int k85)], [.int k85, .ref 13], (0, 0), hp167)) rfl rfl ?_
                                    refine bs_lit (k := 1) rfl rfl fun z171 hz171 => ?_
                                    refine Ev.step (j := 97) (s' := ([some (.ref 7), some (.ref a1), some (.ref 12), some (.int z72), some (.int k85)], [.int z72, .int z171, .int k85, .ref 13], (0, 0), hp167)) rfl rfl ?_
                                    first | (refine bs_sub rfl (by omega) (by omega) fun z172 hz172 => ?_) | (refine bs_any rfl fun z172 => ?_)
                                    have rz172 := n_range z172
                                    refine Ev.inlS (L := L_X10_slotOf) (nL := 2) rfl rfl (Nat.le_of_ble_eq_true rfl) ?_
                                    generalize hQ173 : (fun (o : ab_O) => Ev _ _ _ _) = Q173
                                    refine (show Ev (ab_T L_X10_slotOf) 0 ([some (.int k85), some (.int z172)], [], (0, 0), hp167) Q173 from ?_)
                                    exact by
                                     refine bs_lit (k := 2) rfl rfl fun z174 hz174 => ?_
                                     refine Ev.step (j := 2) (s' := ([some (.int k85), some (.int z172)], [.int k85, .int z174], (0, 0), hp167)) rfl rfl ?_
                                     refine bs_mul (2) rfl (Or.inl hz174) (by rw [hz174]; omega) (by rw [hz174]; omega) fun z175 hz175 => ?_
                                     rw [hz174] at hz175
                                     refine Ev.step (j := 4) (s' := ([some (.int k85), some (.int z172)], [.int z172, .int z175], (0, 0), hp167)) rfl rfl ?_
                                     first | (refine bs_add rfl (by omega) (by omega) fun z176 hz176 => ?_) | (refine bs_any rfl fun z176 => ?_)
                                     have rz176 := n_range z176
                                     refine Ev.ret rfl rfl ?_
                                     rw [← hQ173]
                                     refine (show Ev _ 101 ([some (.ref 7), some (.ref a1), some (.ref 12), some (.int z72), some (.int k85)], [.int z176, .ref 13], (0, 0), hp167) _ from ?_)
                                     exact by
                                      refine Ev.step (j := 102) (s' := ([some (.ref 7), some (.ref a1), some (.ref 12), some (.int z72), some (.int k85)], [.int z176, .ref 13, .int z176, .ref 13], (0, 0), hp167)) rfl rfl ?_
                                      refine bs_ld (g := 149) 0 11 (0, 999) rfl Hhp167 (bs_R.uq Hhp167 (g := 149) rfl) (by decide) rfl (by decide) (by decide) rfl (by decide) (by omega) (by omega) fun z177 hz177 lz177 gz177 => ?_
                                      dsimp only at lz177 gz177
                                      have eyv : z177.toInt = yv := Option.some.inj ((bs_at hz177 (show _ = 2 * k85.toInt.toNat + 1 - fr by omega)).symm.trans ((ehp167 _ _ (Or.inr (by omega))).trans hyv))
                                      refine Ev.step (j := 104) (s' := ([some (.ref 7), some (.ref a1), some (.ref 12), some (.int z72), some (.int k85)], [.ref 7, .int z177, .int z176, .ref 13], (0, 0), hp167)) rfl rfl ?_
                                      refine bs_getU (g := 1) (g1 := 100) rfl rfl Hhp167 (bs_R.uq Hhp167 (g := 1) rfl) (by decide) rfl rfl ?_
                                      refine Ev.step (j := 109) (s' := ([some (.ref 7), some (.ref a1), some (.ref 12), some (.int z72), some (.int k85)], [.int k85, .ref 8, .int z177, .int z176, .ref 13], (0, 0), hp167)) rfl rfl ?_
                                      refine bs_ld (g := 100) 0 5 (-2147483648, 2147483647) rfl Hhp167 (bs_R.uq Hhp167 (g := 100) rfl) (by decide) rfl (by decide) (by decide) rfl (by decide) (by omega) (by omega) fun z178 hz178 lz178 gz178 => ?_
                                      dsimp only at lz178 gz178
                                      have e179 : z178.toInt = fv := Option.some.inj (hz178.symm.trans h170)
                                      first | (refine bs_add rfl (by omega) (by omega) fun z180 hz180 => ?_) | (refine bs_any rfl fun z180 => ?_)
                                      have rz180 := n_range z180
                                      refine bs_st (W := [(149, 0, 11)]) (g := 149) 0 11 (0, 999) rfl Hhp167 (bs_R.uq Hhp167 (g := 149) rfl) (by decide) rfl rfl (by decide) rfl rfl (by omega) (by omega) (by dsimp only; omega) (by dsimp only; omega) fun hp181 Hhp181 fhp181 rhp181 ehp181 qhp181 nhp181 => ?_
                                      have Fhp181 := sf_fr_tr Fhp167 (sf_fr_wider (W := [(1, 2, 3), (6, 7, 9), (100, 0, 5), (101, 0, 5), (149, 0, 11), (151, 0, 11), (152, 0, 11), (153, 0, 7), (154, 0, 7), (155, 0, 63)]) rfl fhp181)
                                      have h182 : sf_rd hp181 12 7 = some z12.toInt := (ehp181 _ _ (Or.inl (by decide))).trans h168
                                      have h183 : sf_rd hp181 a1 8 = some z92.toInt := (ehp181 _ _ (Or.inl (bs_nq (ra1.fr Fhp167) (bs_R.uq Hhp167 (g := 149) rfl) (by decide)))).trans h169
                                      have h184 : sf_rd hp181 8 k85.toInt.toNat = some fv := (ehp181 _ _ (Or.inl (by decide))).trans h170
                                      refine Ev.step (j := 113) (s' := ([some (.ref 7), some (.ref a1), some (.ref 12), some (.int z72), some (.int k85)], [.ref 12], (0, 0), hp181)) rfl rfl ?_
                                      exact by
                                       refine bs_getU (g := 6) (g1 := 152) rfl rfl Hhp181 (bs_R.uq Hhp181 (g := 6) rfl) (by decide) rfl rfl ?_
                                       refine Ev.step (j := 118) (s' := ([some (.ref 7), some (.ref a1), some (.ref 12), some (.int z72), some (.int k85)], [.int k85, .ref 16], (0, 0), hp181)) rfl rfl ?_
                                       refine bs_lit (k := 1) rfl rfl fun z185 hz185 => ?_
                                       refine Ev.step (j := 120) (s' := ([some (.ref 7), some (.ref a1), some (.ref 12), some (.int z72), some (.int k85)], [.int z72, .int z185, .int k85, .ref 16], (0, 0), hp181)) rfl rfl ?_
                                       first | (refine bs_sub rfl (by omega) (by omega) fun z186 hz186 => ?_) | (refine bs_any rfl fun z186 => ?_)
                                       have rz186 := n_range z186
                                       refine Ev.inlS (L := L_X10_slotOf) (nL := 2) rfl rfl (Nat.le_of_ble_eq_true rfl) ?_
                                       generalize hQ187 : (fun (o : ab_O) => Ev _ _ _ _) = Q187
                                       refine (show Ev (ab_T L_X10_slotOf) 0 ([some (.int k85), some (.int z186)], [], (0, 0), hp181) Q187 from ?_)
                                       exact by
                                        refine bs_lit (k := 2) rfl rfl fun z188 hz188 => ?_
                                        refine Ev.step (j := 2) (s' := ([some (.int k85), some (.int z186)], [.int k85, .int z188], (0, 0), hp181)) rfl rfl ?_
                                        refine bs_mul (2) rfl (Or.inl hz188) (by rw [hz188]; omega) (by rw [hz188]; omega) fun z189 hz189 => ?_
                                        rw [hz188] at hz189
                                        refine Ev.step (j := 4) (s' := ([some (.int k85), some (.int z186)], [.int z186, .int z189], (0, 0), hp181)) rfl rfl ?_
                                        first | (refine bs_add rfl (by omega) (by omega) fun z190 hz190 => ?_) | (refine bs_any rfl fun z190 => ?_)
                                        have rz190 := n_range z190
                                        refine Ev.ret rfl rfl ?_
                                        rw [← hQ187]
                                        refine (show Ev _ 124 ([some (.ref 7), some (.ref a1), some (.ref 12), some (.int z72), some (.int k85)], [.int z190, .ref 16], (0, 0), hp181) _ from ?_)
                                        exact by
                                         refine Ev.step (j := 125) (s' := ([some (.ref 7), some (.ref a1), some (.ref 12), some (.int z72), some (.int k85)], [.int z190, .ref 16, .int z190, .ref 16], (0, 0), hp181)) rfl rfl ?_
                                         refine bs_ld (g := 152) 0 11 (-2147483648, 2147483647) rfl Hhp181 (bs_R.uq Hhp181 (g := 152) rfl) (by decide) rfl (by decide) (by decide) rfl (by decide) (by omega) (by omega) fun z191 hz191 lz191 gz191 => ?_
                                         dsimp only at lz191 gz191
                                         refine Ev.step (j := 127) (s' := ([some (.ref 7), some (.ref a1), some (.ref 12), some (.int z72), some (.int k85)], [.ref 7, .int z191, .int z190, .ref 16], (0, 0), hp181)) rfl rfl ?_
                                         refine bs_getU (g := 1) (g1 := 100) rfl rfl Hhp181 (bs_R.uq Hhp181 (g := 1) rfl) (by decide) rfl rfl ?_
                                         refine Ev.step (j := 132) (s' := ([some (.ref 7), some (.ref a1), some (.ref 12), some (.int z72), some (.int k85)], [.int k85, .ref 8, .int z191, .int z190, .ref 16], (0, 0), hp181)) rfl rfl ?_
                                         refine bs_ld (g := 100) 0 5 (-2147483648, 2147483647) rfl Hhp181 (bs_R.uq Hhp181 (g := 100) rfl) (by decide) rfl (by decide) (by decide) rfl (by decide) (by omega) (by omega) fun z192 hz192 lz192 gz192 => ?_
                                         dsimp only at lz192 gz192
                                         have e193 : z192.toInt = fv := Option.some.inj (hz192.symm.trans h184)
                                         first | (refine bs_add rfl (by omega) (by omega) fun z194 hz194 => ?_) | (refine bs_any rfl fun z194 => ?_)
                                         have rz194 := n_range z194
                                         refine bs_st (W := [(152, 0, 11)]) (g := 152) 0 11 (-2147483648, 2147483647) rfl Hhp181 (bs_R.uq Hhp181 (g := 152) rfl) (by decide) rfl rfl (by decide) rfl rfl (by omega) (by omega) (by dsimp only; omega) (by dsimp only; omega) fun hp195 Hhp195 fhp195 rhp195 ehp195 qhp195 nhp195 => ?_
                                         have Fhp195 := sf_fr_tr Fhp181 (sf_fr_wider (W := [(1, 2, 3), (6, 7, 9), (100, 0, 5), (101, 0, 5), (149, 0, 11), (151, 0, 11), (152, 0, 11), (153, 0, 7), (154, 0, 7), (155, 0, 63)]) rfl fhp195)
                                         have h196 : sf_rd hp195 12 7 = some z12.toInt := (ehp195 _ _ (Or.inl (by decide))).trans h182
                                         have h197 : sf_rd hp195 a1 8 = some z92.toInt := (ehp195 _ _ (Or.inl (bs_nq (ra1.fr Fhp181) (bs_R.uq Hhp181 (g := 152) rfl) (by decide)))).trans h183
                                         have h198 : sf_rd hp195 8 k85.toInt.toNat = some fv := (ehp195 _ _ (Or.inl (by decide))).trans h184
                                         have h199 : sf_rd hp195 13 z176.toInt.toNat = some z180.toInt := (ehp195 _ _ (Or.inl (by decide))).trans rhp181
                                         refine bs_iinc (1) rfl rfl rfl rfl (by omega) (by omega) fun z200 hz200 => ?_
                                         exact by
                                          refine (show Ev _ 138 ([some (.ref 7), some (.ref a1), some (.ref 12), some (.int z72), some (.int z200)], [], (0, 0), hp195) _ from ?_)
                                          refine Ev.step (j := 59) (s' := ([some (.ref 7), some (.ref a1), some (.ref 12), some (.int z72), some (.int z200)], [], (0, 0), hp195)) rfl rfl ?_
                                          have FR3 : ∀ q : Nat, z200.toInt ≤ (q : Int) → (q : Int) < G → fr_ok hp195 13 fr q := fun q h1 h2 => fr_ok_same (i91 q (by omega) h2) ((ehp195 _ _ (Or.inl (by decide))).trans ((ehp181 _ _ (Or.inl (by decide))).trans (ehp167 _ _ (Or.inl (by decide))))) ((ehp195 _ _ (Or.inl (by decide))).trans ((ehp181 _ _ (Or.inr (by omega))).trans (ehp167 _ _ (Or.inr (by omega))))) ((ehp195 _ _ (Or.inl (by decide))).trans ((ehp181 _ _ (Or.inr (by omega))).trans (ehp167 _ _ (Or.inr (by omega)))))
                                          refine ih88 (z200, hp195, t87) ⟨Hhp195, Fhp195, h196, (by first | omega | assumption), (by first | exact FR3 | exact fun q _ hq => i80 q hq)⟩ ?_
                                          show (6 - z200.toInt).toNat < (6 - k85.toInt).toNat
                                          omega
                            · skip
                              refine Ev.step (j := 18) (s' := ([some (.ref 7), some (.ref a1), some (.ref 12), some (.int z72), some (.int k74)], [.ref 7], (0, 0), hp75)) rfl rfl ?_
                              exact by
                               refine bs_getI 1 rfl rfl rfl Hhp75 (bs_R.uq Hhp75 (g := 1) rfl) (by decide) rfl fun z201 hz201 lz201 gz201 => ?_
                               refine bs_lit (k := 1) rfl rfl fun z202 hz202 => ?_
                               refine Ev.step (j := 24) (s' := ([some (.ref 7), some (.ref a1), some (.ref 12), some (.int z72), some (.int k74)], [.int k74, .int z202, .int z201], (0, 0), hp75)) rfl rfl ?_
                               refine bs_any rfl fun z203 => ?_
                               have rz203 := n_range z203
                               refine bs_any rfl fun z204 => ?_
                               have rz204 := n_range z204
                               refine bs_ifeq rfl (fun c205 => ?_) (fun c205 => ?_)
                               · skip
                                 have c206 : z204.toInt = 0 := by omega
                                 refine bs_iinc (1) rfl rfl rfl rfl (by omega) (by omega) fun z207 hz207 => ?_
                                 exact by
                                  refine (show Ev _ 53 ([some (.ref 7), some (.ref a1), some (.ref 12), some (.int z72), some (.int z207)], [], (0, 0), hp75) _ from ?_)
                                  refine Ev.step (j := 8) (s' := ([some (.ref 7), some (.ref a1), some (.ref 12), some (.int z72), some (.int z207)], [], (0, 0), hp75)) rfl rfl ?_
                                  have FR2 : ∀ q : Nat, (q : Int) < G → fr_ok hp75 13 fr q := fun q hq => fr_ok_same (i80 q hq) rfl rfl rfl
                                  refine ih77 (z207, hp75, t76) ⟨Hhp75, Fhp75, i78, (by first | omega | assumption), (by first | exact FR2 | exact FR)⟩ ?_
                                  show (8 - z207.toInt).toNat < (8 - k74.toInt).toNat
                                  omega
                               · skip
                                 refine Ev.step (j := 30) (s' := ([some (.ref 7), some (.ref a1), some (.ref 12), some (.int z72), some (.int k74)], [.ref 12], (0, 0), hp75)) rfl rfl ?_
                                 exact by
                                  refine bs_getU (g := 6) (g1 := 153) rfl rfl Hhp75 (bs_R.uq Hhp75 (g := 6) rfl) (by decide) rfl rfl ?_
                                  refine Ev.step (j := 35) (s' := ([some (.ref 7), some (.ref a1), some (.ref 12), some (.int z72), some (.int k74)], [.int k74, .ref 17], (0, 0), hp75)) rfl rfl ?_
                                  refine bs_lit (k := 1) rfl rfl fun z208 hz208 => ?_
                                  refine Ev.step (j := 37) (s' := ([some (.ref 7), some (.ref a1), some (.ref 12), some (.int z72), some (.int k74)], [.int z72, .int z208, .int k74, .ref 17], (0, 0), hp75)) rfl rfl ?_
                                  first | (refine bs_sub rfl (by omega) (by omega) fun z209 hz209 => ?_) | (refine bs_any rfl fun z209 => ?_)
                                  have rz209 := n_range z209
                                  refine bs_st (W := [(153, 0, 7)]) (g := 153) 0 7 (-2147483648, 2147483647) rfl Hhp75 (bs_R.uq Hhp75 (g := 153) rfl) (by decide) rfl rfl (by decide) rfl rfl (by omega) (by omega) (by dsimp only; omega) (by dsimp only; omega) fun hp210 Hhp210 fhp210 rhp210 ehp210 qhp210 nhp210 => ?_
                                  have Fhp210 := sf_fr_tr Fhp75 (sf_fr_wider (W := [(1, 2, 3), (6, 7, 9), (100, 0, 5), (101, 0, 5), (149, 0, 11), (151, 0, 11), (152, 0, 11), (153, 0, 7), (154, 0, 7), (155, 0, 63)]) rfl fhp210)
                                  have h211 : sf_rd hp210 12 7 = some z12.toInt := (ehp210 _ _ (Or.inl (by decide))).trans i78
                                  have h212 : sf_rd hp210 a1 9 = some z81.toInt := (ehp210 _ _ (Or.inl (bs_nq (ra1.fr Fhp75) (bs_R.uq Hhp75 (g := 153) rfl) (by decide)))).trans hz81
                                  have h213 : sf_rd hp210 7 2 = some z201.toInt := (ehp210 _ _ (Or.inl (by decide))).trans hz201
                                  refine Ev.step (j := 40) (s' := ([some (.ref 7), some (.ref a1), some (.ref 12), some (.int z72), some (.int k74)], [.ref 12], (0, 0), hp210)) rfl rfl ?_
                                  exact by
                                   refine bs_getU (g := 6) (g1 := 154) rfl rfl Hhp210 (bs_R.uq Hhp210 (g := 6) rfl) (by decide) rfl rfl ?_
                                   refine Ev.step (j := 45) (s' := ([some (.ref 7), some (.ref a1), some (.ref 12), some (.int z72), some (.int k74)], [.int k74, .ref 18], (0, 0), hp210)) rfl rfl ?_
                                   refine Ev.step (j := 46) (s' := ([some (.ref 7), some (.ref a1), some (.ref 12), some (.int z72), some (.int k74)], [.int k74, .ref 18, .int k74, .ref 18], (0, 0), hp210)) rfl rfl ?_
                                   refine bs_ld (g := 154) 0 7 (-2147483648, 2147483647) rfl Hhp210 (bs_R.uq Hhp210 (g := 154) rfl) (by decide) rfl (by decide) (by decide) rfl (by decide) (by omega) (by omega) fun z214 hz214 lz214 gz214 => ?_
                                   dsimp only at lz214 gz214
                                   refine bs_lit (k := 1) rfl rfl fun z215 hz215 => ?_
                                   first | (refine bs_add rfl (by omega) (by omega) fun z216 hz216 => ?_) | (refine bs_any rfl fun z216 => ?_)
                                   have rz216 := n_range z216
                                   refine bs_st (W := [(154, 0, 7)]) (g := 154) 0 7 (-2147483648, 2147483647) rfl Hhp210 (bs_R.uq Hhp210 (g := 154) rfl) (by decide) rfl rfl (by decide) rfl rfl (by omega) (by omega) (by dsimp only; omega) (by dsimp only; omega) fun hp217 Hhp217 fhp217 rhp217 ehp217 qhp217 nhp217 => ?_
                                   have Fhp217 := sf_fr_tr Fhp210 (sf_fr_wider (W := [(1, 2, 3), (6, 7, 9), (100, 0, 5), (101, 0, 5), (149, 0, 11), (151, 0, 11), (152, 0, 11), (153, 0, 7), (154, 0, 7), (155, 0, 63)]) rfl fhp217)
                                   have h218 : sf_rd hp217 12 7 = some z12.toInt := (ehp217 _ _ (Or.inl (by decide))).trans h211
                                   have h219 : sf_rd hp217 a1 9 = some z81.toInt := (ehp217 _ _ (Or.inl (bs_nq (ra1.fr Fhp210) (bs_R.uq Hhp210 (g := 154) rfl) (by decide)))).trans h212
                                   have h220 : sf_rd hp217 7 2 = some z201.toInt := (ehp217 _ _ (Or.inl (by decide))).trans h213
                                   have h221 : sf_rd hp217 17 k74.toInt.toNat = some z209.toInt := (ehp217 _ _ (Or.inl (by decide))).trans rhp210
                                   refine bs_iinc (1) rfl rfl rfl rfl (by omega) (by omega) fun z222 hz222 => ?_
                                   exact by
                                    refine (show Ev _ 53 ([some (.ref 7), some (.ref a1), some (.ref 12), some (.int z72), some (.int z222)], [], (0, 0), hp217) _ from ?_)
                                    refine Ev.step (j := 8) (s' := ([some (.ref 7), some (.ref a1), some (.ref 12), some (.int z72), some (.int z222)], [], (0, 0), hp217)) rfl rfl ?_
                                    have FR2 : ∀ q : Nat, (q : Int) < G → fr_ok hp217 13 fr q := fun q hq => fr_ok_same (i80 q hq) ((ehp217 _ _ (Or.inl (by decide))).trans (ehp210 _ _ (Or.inl (by decide)))) ((ehp217 _ _ (Or.inl (by decide))).trans (ehp210 _ _ (Or.inl (by decide)))) ((ehp217 _ _ (Or.inl (by decide))).trans (ehp210 _ _ (Or.inl (by decide))))
                                    refine ih77 (z222, hp217, t76) ⟨Hhp217, Fhp217, h218, (by first | omega | assumption), (by first | exact FR2 | exact FR)⟩ ?_
                                    show (8 - z222.toInt).toNat < (8 - k74.toInt).toNat
                                    omega
                       · skip
                         refine Ev.step (j := 128) (s' := ([some (.ref 7), some (.ref a1), some (.ref 12), some (.int z23), some (.int z28), some (.int z40), some (.int k56), o59], [.ref 12], (0, 0), hp57)) rfl rfl ?_
                         exact by
                          refine Ev.step (j := 129) (s' := ([some (.ref 7), some (.ref a1), some (.ref 12), some (.int z23), some (.int z28), some (.int z40), some (.int k56), o59], [.ref a1, .ref 12], (0, 0), hp57)) rfl rfl ?_
                          refine Ev.step (j := 131) (s' := ([some (.ref 7), some (.ref a1), some (.ref 12), some (.int z23), some (.int z28), some (.int z40), some (.int k56), o59], [.int k56, .ref a1, .ref 12], (0, 0), hp57)) rfl rfl ?_
                          refine bs_lit (k := 1) rfl rfl fun z223 hz223 => ?_
                          refine Ev.step (j := 133) (s' := ([some (.ref 7), some (.ref a1), some (.ref 12), some (.int z23), some (.int z28), some (.int z40), some (.int k56), o59], [.int z23, .int z223, .int k56, .ref a1, .ref 12], (0, 0), hp57)) rfl rfl ?_
                          first | (refine bs_sub rfl (by omega) (by omega) fun z224 hz224 => ?_) | (refine bs_any rfl fun z224 => ?_)
                          have rz224 := n_range z224
                          refine Ev.inlS (L := L_X10_slotOf) (nL := 2) rfl rfl (Nat.le_of_ble_eq_true rfl) ?_
                          generalize hQ225 : (fun (o : ab_O) => Ev _ _ _ _) = Q225
                          refine (show Ev (ab_T L_X10_slotOf) 0 ([some (.int k56), some (.int z224)], [], (0, 0), hp57) Q225 from ?_)
                          exact by
                           refine bs_lit (k := 2) rfl rfl fun z226 hz226 => ?_
                           refine Ev.step (j := 2) (s' := ([some (.int k56), some (.int z224)], [.int k56, .int z226], (0, 0), hp57)) rfl rfl ?_
                           refine bs_mul (2) rfl (Or.inl hz226) (by rw [hz226]; omega) (by rw [hz226]; omega) fun z227 hz227 => ?_
                           rw [hz226] at hz227
                           refine Ev.step (j := 4) (s' := ([some (.int k56), some (.int z224)], [.int z224, .int z227], (0, 0), hp57)) rfl rfl ?_
                           first | (refine bs_add rfl (by omega) (by omega) fun z228 hz228 => ?_) | (refine bs_any rfl fun z228 => ?_)
                           have rz228 := n_range z228
                           refine Ev.ret rfl rfl ?_
                           rw [← hQ225]
                           refine (show Ev _ 137 ([some (.ref 7), some (.ref a1), some (.ref 12), some (.int z23), some (.int z28), some (.int z40), some (.int k56), o59], [.int z228, .ref a1, .ref 12], (0, 0), hp57) _ from ?_)
                           exact by
                            refine Ev.inl (L := (L_X6_lackAt Z_X7_amountOf)) (nL := 3) rfl (bs_rcv (g := 6) Hhp57 (bs_R.uq Hhp57 (g := 6) rfl) (by decide) rfl) rfl (Nat.le_of_ble_eq_true rfl) ?_
                            generalize hQ229 : (fun (o : ab_O) => Ev _ _ _ _) = Q229
                            refine (show Ev (ab_T (L_X6_lackAt Z_X7_amountOf)) 0 ([some (.ref 12), some (.ref a1), some (.int z228)], [], (0, 0), hp57) Q229 from ?_)
                            refine bs_lit (k := 0) rfl rfl fun z230 hz230 => ?_
                            refine Ev.step (j := 2) (s' := ([some (.ref 12), some (.ref a1), some (.int z228)], [.ref a1, .int z230], (0, 0), hp57)) rfl rfl ?_
                            refine bs_lit (k := 1) rfl rfl fun z231 hz231 => ?_
                            refine Ev.step (j := 4) (s' := ([some (.ref 12), some (.ref a1), some (.int z228)], [.int z228, .int z231, .ref a1, .int z230], (0, 0), hp57)) rfl rfl ?_
                            refine Ev.inl (L := L_X7_amountOf) (nL := 3) rfl (bs_rcv (g := 7) Hhp57 (ra1.fr Fhp57) (by decide) rfl) rfl (Nat.le_of_ble_eq_true rfl) ?_
                            generalize hQ232 : (fun (o : ab_O) => Ev _ _ _ _) = Q232
                            refine (show Ev (ab_T L_X7_amountOf) 0 ([some (.ref a1), some (.int z231), some (.int z228)], [], (0, 0), hp57) Q232 from ?_)
                            exact by
                             refine Ev.step (j := 1) (s' := ([some (.ref a1), some (.int z231), some (.int z228)], [.ref a1], (0, 0), hp57)) rfl rfl ?_
                             refine bs_getR (g := 7) (g1 := 119) rfl rfl Hhp57 (ra1.fr Fhp57) (by decide) rfl fun b233 qb233 rb233 => ?_
                             refine Ev.step (j := 5) (s' := ([some (.ref a1), some (.int z231), some (.int z228)], [.int z231, .ref b233], (0, 0), hp57)) rfl rfl ?_
                             refine bs_lit (k := 12) rfl rfl fun z234 hz234 => ?_
                             refine bs_mul (12) rfl (Or.inr hz234) (by rw [hz234]; omega) (by rw [hz234]; omega) fun z235 hz235 => ?_
                             rw [hz234] at hz235
                             refine Ev.step (j := 9) (s' := ([some (.ref a1), some (.int z231), some (.int z228)], [.int z228, .int z235, .ref b233], (0, 0), hp57)) rfl rfl ?_
                             first | (refine bs_add rfl (by omega) (by omega) fun z236 hz236 => ?_) | (refine bs_any rfl fun z236 => ?_)
                             have rz236 := n_range z236
                             refine bs_ld (g := 119) 12 23 (0, 250) rfl Hhp57 rb233 (by decide) rfl (by decide) (by decide) rfl (by decide) (by omega) (by omega) fun z237 hz237 lz237 gz237 => ?_
                             dsimp only at lz237 gz237
                             refine Ev.ret rfl rfl ?_
                             rw [← hQ232]
                             refine (show Ev _ 7 ([some (.ref 12), some (.ref a1), some (.int z228)], [.int z237, .int z230], (0, 0), hp57) _ from ?_)
                             exact by
                              refine Ev.step (j := 8) (s' := ([some (.ref 12), some (.ref a1), some (.int z228)], [.ref 12, .int z237, .int z230], (0, 0), hp57)) rfl rfl ?_
                              refine bs_getU (g := 6) (g1 := 149) rfl rfl Hhp57 (bs_R.uq Hhp57 (g := 6) rfl) (by decide) rfl rfl ?_
                              refine Ev.step (j := 12) (s' := ([some (.ref 12), some (.ref a1), some (.int z228)], [.int z228, .ref 13, .int z237, .int z230], (0, 0), hp57)) rfl rfl ?_
                              refine bs_ld (g := 149) 0 11 (0, 999) rfl Hhp57 (bs_R.uq Hhp57 (g := 149) rfl) (by decide) rfl (by decide) (by decide) rfl (by decide) (by omega) (by omega) fun z238 hz238 lz238 gz238 => ?_
                              dsimp only at lz238 gz238
                              first | (refine bs_sub rfl (by omega) (by omega) fun z239 hz239 => ?_) | (refine bs_any rfl fun z239 => ?_)
                              have rz239 := n_range z239
                              refine bs_max rfl rfl fun z240 hz240 => ?_
                              refine Ev.ret rfl rfl ?_
                              rw [← hQ229]
                              refine (show Ev _ 140 ([some (.ref 7), some (.ref a1), some (.ref 12), some (.int z23), some (.int z28), some (.int z40), some (.int k56), o59], [.int z240], (0, 0), hp57) _ from ?_)
                              exact by
                               refine Ev.step (j := 142) (s' := ([some (.ref 7), some (.ref a1), some (.ref 12), some (.int z23), some (.int z28), some (.int z40), some (.int k56), some (.int z240)], [], (0, 0), hp57)) rfl rfl ?_
                               refine Ev.step (j := 143) (s' := ([some (.ref 7), some (.ref a1), some (.ref 12), some (.int z23), some (.int z28), some (.int z40), some (.int k56), some (.int z240)], [.ref 7], (0, 0), hp57)) rfl rfl ?_
                               refine bs_getU (g := 1) (g1 := 101) rfl rfl Hhp57 (bs_R.uq Hhp57 (g := 1) rfl) (by decide) rfl rfl ?_
                               refine Ev.step (j := 148) (s' := ([some (.ref 7), some (.ref a1), some (.ref 12), some (.int z23), some (.int z28), some (.int z40), some (.int k56), some (.int z240)], [.int k56, .ref 9], (0, 0), hp57)) rfl rfl ?_
                               refine Ev.step (j := 150) (s' := ([some (.ref 7), some (.ref a1), some (.ref 12), some (.int z23), some (.int z28), some (.int z40), some (.int k56), some (.int z240)], [.int z28, .int k56, .ref 9], (0, 0), hp57)) rfl rfl ?_
                               refine Ev.step (j := 151) (s' := ([some (.ref 7), some (.ref a1), some (.ref 12), some (.int z23), some (.int z28), some (.int z40), some (.int k56), some (.int z240)], [.ref 7, .int z28, .int k56, .ref 9], (0, 0), hp57)) rfl rfl ?_
                               refine bs_getI 1 rfl rfl rfl Hhp57 (bs_R.uq Hhp57 (g := 1) rfl) (by decide) rfl fun z241 hz241 lz241 gz241 => ?_
                               first | (refine bs_sub rfl (by omega) (by omega) fun z242 hz242 => ?_) | (refine bs_any rfl fun z242 => ?_)
                               have rz242 := n_range z242
                               refine bs_st (W := [(101, 0, 5)]) (g := 101) 0 5 (-2147483648, 2147483647) rfl Hhp57 (bs_R.uq Hhp57 (g := 101) rfl) (by decide) rfl rfl (by decide) rfl rfl (by omega) (by omega) (by dsimp only; omega) (by dsimp only; omega) fun hp243 Hhp243 fhp243 rhp243 ehp243 qhp243 nhp243 => ?_
                               have Fhp243 := sf_fr_tr Fhp57 (sf_fr_wider (W := [(1, 2, 3), (6, 7, 9), (100, 0, 5), (101, 0, 5), (149, 0, 11), (151, 0, 11), (152, 0, 11), (153, 0, 7), (154, 0, 7), (155, 0, 63)]) rfl fhp243)
                               have h244 : sf_rd hp243 12 7 = some z12.toInt := (ehp243 _ _ (Or.inl (by decide))).trans i61
                               have h245 : sf_rd hp243 a1 8 = some z64.toInt := (ehp243 _ _ (Or.inl (bs_nq (ra1.fr Fhp57) (bs_R.uq Hhp57 (g := 101) rfl) (by decide)))).trans hz64
                               have h246 : sf_rd hp243 b233 z236.toInt.toNat = some z237.toInt := (ehp243 _ _ (Or.inl (bs_nq rb233 (bs_R.uq Hhp57 (g := 101) rfl) (by decide)))).trans hz237
                               have h247 : sf_rd hp243 13 z228.toInt.toNat = some z238.toInt := (ehp243 _ _ (Or.inl (by decide))).trans hz238
                               have h248 : sf_rd hp243 7 3 = some z241.toInt := (ehp243 _ _ (Or.inl (by decide))).trans hz241
                               have r249 := rb233.fr fhp243
                               refine Ev.step (j := 157) (s' := ([some (.ref 7), some (.ref a1), some (.ref 12), some (.int z23), some (.int z28), some (.int z40), some (.int k56), some (.int z240)], [.ref 7], (0, 0), hp243)) rfl rfl ?_
                               exact by
                                refine bs_getU (g := 1) (g1 := 100) rfl rfl Hhp243 (bs_R.uq Hhp243 (g := 1) rfl) (by decide) rfl rfl ?_
                                refine Ev.step (j := 162) (s' := ([some (.ref 7), some (.ref a1), some (.ref 12), some (.int z23), some (.int z28), some (.int z40), some (.int k56), some (.int z240)], [.int k56, .ref 8], (0, 0), hp243)) rfl rfl ?_
                                refine Ev.step (j := 163) (s' := ([some (.ref 7), some (.ref a1), some (.ref 12), some (.int z23), some (.int z28), some (.int z40), some (.int k56), some (.int z240)], [.ref 12, .int k56, .ref 8], (0, 0), hp243)) rfl rfl ?_
                                refine bs_getU (g := 6) (g1 := 149) rfl rfl Hhp243 (bs_R.uq Hhp243 (g := 6) rfl) (by decide) rfl rfl ?_
                                refine Ev.step (j := 168) (s' := ([some (.ref 7), some (.ref a1), some (.ref 12), some (.int z23), some (.int z28), some (.int z40), some (.int k56), some (.int z240)], [.int k56, .ref 13, .int k56, .ref 8], (0, 0), hp243)) rfl rfl ?_
                                refine Ev.step (j := 169) (s' := ([some (.ref 7), some (.ref a1), some (.ref 12), some (.int z23), some (.int z28), some (.int z40), some (.int k56), some (.int z240)], [.int z23, .int k56, .ref 13, .int k56, .ref 8], (0, 0), hp243)) rfl rfl ?_
                                refine Ev.inlS (L := L_X10_slotOf) (nL := 2) rfl rfl (Nat.le_of_ble_eq_true rfl) ?_
                                generalize hQ250 : (fun (o : ab_O) => Ev _ _ _ _) = Q250
                                refine (show Ev (ab_T L_X10_slotOf) 0 ([some (.int k56), some (.int z23)], [], (0, 0), hp243) Q250 from ?_)
                                exact by
                                 refine bs_lit (k := 2) rfl rfl fun z251 hz251 => ?_
                                 refine Ev.step (j := 2) (s' := ([some (.int k56), some (.int z23)], [.int k56, .int z251], (0, 0), hp243)) rfl rfl ?_
                                 refine bs_mul (2) rfl (Or.inl hz251) (by rw [hz251]; omega) (by rw [hz251]; omega) fun z252 hz252 => ?_
                                 rw [hz251] at hz252
                                 refine Ev.step (j := 4) (s' := ([some (.int k56), some (.int z23)], [.int z23, .int z252], (0, 0), hp243)) rfl rfl ?_
                                 first | (refine bs_add rfl (by omega) (by omega) fun z253 hz253 => ?_) | (refine bs_any rfl fun z253 => ?_)
                                 have rz253 := n_range z253
                                 refine Ev.ret rfl rfl ?_
                                 rw [← hQ250]
                                 refine (show Ev _ 172 ([some (.ref 7), some (.ref a1), some (.ref 12), some (.int z23), some (.int z28), some (.int z40), some (.int k56), some (.int z240)], [.int z253, .ref 13, .int k56, .ref 8], (0, 0), hp243) _ from ?_)
                                 exact by
                                  refine bs_ld (g := 149) 0 11 (0, 999) rfl Hhp243 (bs_R.uq Hhp243 (g := 149) rfl) (by decide) rfl (by decide) (by decide) rfl (by decide) (by omega) (by omega) fun z254 hz254 lz254 gz254 => ?_
                                  dsimp only at lz254 gz254
                                  refine Ev.step (j := 175) (s' := ([some (.ref 7), some (.ref a1), some (.ref 12), some (.int z23), some (.int z28), some (.int z40), some (.int k56), some (.int z240)], [.int z240, .int z254, .int k56, .ref 8], (0, 0), hp243)) rfl rfl ?_
                                  refine Ev.step (j := 176) (s' := ([some (.ref 7), some (.ref a1), some (.ref 12), some (.int z23), some (.int z28), some (.int z40), some (.int k56), some (.int z240)], [.ref 7, .int z240, .int z254, .int k56, .ref 8], (0, 0), hp243)) rfl rfl ?_
                                  refine bs_getU (g := 1) (g1 := 101) rfl rfl Hhp243 (bs_R.uq Hhp243 (g := 1) rfl) (by decide) rfl rfl ?_
                                  refine Ev.step (j := 181) (s' := ([some (.ref 7), some (.ref a1), some (.ref 12), some (.int z23), some (.int z28), some (.int z40), some (.int k56), some (.int z240)], [.int k56, .ref 9, .int z240, .int z254, .int k56, .ref 8], (0, 0), hp243)) rfl rfl ?_
                                  refine bs_ld (g := 101) 0 5 (-2147483648, 2147483647) rfl Hhp243 (bs_R.uq Hhp243 (g := 101) rfl) (by decide) rfl (by decide) (by decide) rfl (by decide) (by omega) (by omega) fun z255 hz255 lz255 gz255 => ?_
                                  dsimp only at lz255 gz255
                                  have e256 : z255.toInt = z242.toInt := Option.some.inj (hz255.symm.trans rhp243)
                                  refine Ev.inlS (L := L_X1_amountMoved) (nL := 3) rfl rfl (Nat.le_of_ble_eq_true rfl) ?_
                                  generalize hQ257 : (fun (o : ab_O) => Ev _ _ _ _) = Q257
                                  refine (show Ev (ab_T L_X1_amountMoved) 0 ([some (.int z254), some (.int z240), some (.int z255)], [], (0, 0), hp243) Q257 from ?_)
                                  exact by
                                   refine bs_lit (k := 0) rfl rfl fun z258 hz258 => ?_
                                   refine Ev.step (j := 2) (s' := ([some (.int z254), some (.int z240), some (.int z255)], [.int z254, .int z258], (0, 0), hp243)) rfl rfl ?_
                                   refine Ev.step (j := 3) (s' := ([some (.int z254), some (.int z240), some (.int z255)], [.int z240, .int z254, .int z258], (0, 0), hp243)) rfl rfl ?_
                                   refine Ev.step (j := 4) (s' := ([some (.int z254), some (.int z240), some (.int z255)], [.int z255, .int z240, .int z254, .int z258], (0, 0), hp243)) rfl rfl ?_
                                   refine bs_min rfl rfl fun z259 hz259 => ?_
                                   refine bs_min rfl rfl fun z260 hz260 => ?_
                                   refine bs_max rfl rfl fun z261 hz261 => ?_
                                   refine Ev.ret rfl rfl ?_
                                   rw [← hQ257]
                                   refine (show Ev _ 185 ([some (.ref 7), some (.ref a1), some (.ref 12), some (.int z23), some (.int z28), some (.int z40), some (.int k56), some (.int z240)], [.int z261, .int k56, .ref 8], (0, 0), hp243) _ from ?_)
                                   exact by
                                    refine bs_st (W := [(100, 0, 5)]) (g := 100) 0 5 (-2147483648, 2147483647) rfl Hhp243 (bs_R.uq Hhp243 (g := 100) rfl) (by decide) rfl rfl (by decide) rfl rfl (by omega) (by omega) (by dsimp only; omega) (by dsimp only; omega) fun hp262 Hhp262 fhp262 rhp262 ehp262 qhp262 nhp262 => ?_
                                    have Fhp262 := sf_fr_tr Fhp243 (sf_fr_wider (W := [(1, 2, 3), (6, 7, 9), (100, 0, 5), (101, 0, 5), (149, 0, 11), (151, 0, 11), (152, 0, 11), (153, 0, 7), (154, 0, 7), (155, 0, 63)]) rfl fhp262)
                                    have h263 : sf_rd hp262 12 7 = some z12.toInt := (ehp262 _ _ (Or.inl (by decide))).trans h244
                                    have h264 : sf_rd hp262 a1 8 = some z64.toInt := (ehp262 _ _ (Or.inl (bs_nq (ra1.fr Fhp243) (bs_R.uq Hhp243 (g := 100) rfl) (by decide)))).trans h245
                                    have h265 : sf_rd hp262 b233 z236.toInt.toNat = some z237.toInt := (ehp262 _ _ (Or.inl (bs_nq r249 (bs_R.uq Hhp243 (g := 100) rfl) (by decide)))).trans h246
                                    have h266 : sf_rd hp262 13 z228.toInt.toNat = some z238.toInt := (ehp262 _ _ (Or.inl (by decide))).trans h247
                                    have h267 : sf_rd hp262 7 3 = some z241.toInt := (ehp262 _ _ (Or.inl (by decide))).trans h248
                                    have h268 : sf_rd hp262 9 k56.toInt.toNat = some z242.toInt := (ehp262 _ _ (Or.inl (by decide))).trans rhp243
                                    have h269 : sf_rd hp262 13 z253.toInt.toNat = some z254.toInt := (ehp262 _ _ (Or.inl (by decide))).trans hz254
                                    have r270 := r249.fr fhp262
                                    refine Ev.step (j := 187) (s' := ([some (.ref 7), some (.ref a1), some (.ref 12), some (.int z23), some (.int z28), some (.int z40), some (.int k56), some (.int z240)], [.ref 7], (0, 0), hp262)) rfl rfl ?_
                                    exact by
                                     refine Ev.step (j := 188) (s' := ([some (.ref 7), some (.ref a1), some (.ref 12), some (.int z23), some (.int z28), some (.int z40), some (.int k56), some (.int z240)], [.ref 7, .ref 7], (0, 0), hp262)) rfl rfl ?_
                                     refine bs_getI 1 rfl rfl rfl Hhp262 (bs_R.uq Hhp262 (g := 1) rfl) (by decide) rfl fun z271 hz271 lz271 gz271 => ?_
                                     have e272 : z271.toInt = z241.toInt := Option.some.inj (hz271.symm.trans h267)
                                     refine Ev.step (j := 192) (s' := ([some (.ref 7), some (.ref a1), some (.ref 12), some (.int z23), some (.int z28), some (.int z40), some (.int k56), some (.int z240)], [.ref 7, .int z271, .ref 7], (0, 0), hp262)) rfl rfl ?_
                                     refine bs_getU (g := 1) (g1 := 100) rfl rfl Hhp262 (bs_R.uq Hhp262 (g := 1) rfl) (by decide) rfl rfl ?_
                                     refine Ev.step (j := 197) (s' := ([some (.ref 7), some (.ref a1), some (.ref 12), some (.int z23), some (.int z28), some (.int z40), some (.int k56), some (.int z240)], [.int k56, .ref 8, .int z271, .ref 7], (0, 0), hp262)) rfl rfl ?_
                                     refine bs_ld (g := 100) 0 5 (-2147483648, 2147483647) rfl Hhp262 (bs_R.uq Hhp262 (g := 100) rfl) (by decide) rfl (by decide) (by decide) rfl (by decide) (by omega) (by omega) fun z273 hz273 lz273 gz273 => ?_
                                     dsimp only at lz273 gz273
                                     have e274 : z273.toInt = z261.toInt := Option.some.inj (hz273.symm.trans rhp262)
                                     first | (refine bs_add rfl (by omega) (by omega) fun z275 hz275 => ?_) | (refine bs_any rfl fun z275 => ?_)
                                     have rz275 := n_range z275
                                     refine bs_putI (W := [(1, 3, 3)]) (g := 1) rfl rfl Hhp262 (bs_R.uq Hhp262 (g := 1) rfl) (by decide) rfl rfl rfl rfl (Or.inl rfl) (by omega) (by omega) fun hp276 Hhp276 fhp276 rhp276 ehp276 qhp276 nhp276 => ?_
                                     have Fhp276 := sf_fr_tr Fhp262 (sf_fr_wider (W := [(1, 2, 3), (6, 7, 9), (100, 0, 5), (101, 0, 5), (149, 0, 11), (151, 0, 11), (152, 0, 11), (153, 0, 7), (154, 0, 7), (155, 0, 63)]) rfl fhp276)
                                     have h277 : sf_rd hp276 12 7 = some z12.toInt := (ehp276 _ _ (Or.inl (by decide))).trans h263
                                     have h278 : sf_rd hp276 a1 8 = some z64.toInt := (ehp276 _ _ (Or.inl (bs_nq (ra1.fr Fhp262) (bs_R.uq Hhp262 (g := 1) rfl) (by decide)))).trans h264
                                     have h279 : sf_rd hp276 b233 z236.toInt.toNat = some z237.toInt := (ehp276 _ _ (Or.inl (bs_nq r270 (bs_R.uq Hhp262 (g := 1) rfl) (by decide)))).trans h265
                                     have h280 : sf_rd hp276 13 z228.toInt.toNat = some z238.toInt := (ehp276 _ _ (Or.inl (by decide))).trans h266
                                     have h281 : sf_rd hp276 9 k56.toInt.toNat = some z242.toInt := (ehp276 _ _ (Or.inl (by decide))).trans h268
                                     have h282 : sf_rd hp276 13 z253.toInt.toNat = some z254.toInt := (ehp276 _ _ (Or.inl (by decide))).trans h269
                                     have h283 : sf_rd hp276 8 k56.toInt.toNat = some z261.toInt := (ehp276 _ _ (Or.inl (by decide))).trans rhp262
                                     have r284 := r270.fr fhp276
                                     refine bs_iinc (1) rfl rfl rfl rfl (by omega) (by omega) fun z285 hz285 => ?_
                                     exact by
                                      refine (show Ev _ 205 ([some (.ref 7), some (.ref a1), some (.ref 12), some (.int z23), some (.int z28), some (.int z40), some (.int z285), some (.int z240)], [], (0, 0), hp276) _ from ?_)
                                      refine Ev.step (j := 118) (s' := ([some (.ref 7), some (.ref a1), some (.ref 12), some (.int z23), some (.int z28), some (.int z40), some (.int z285), some (.int z240)], [], (0, 0), hp276)) rfl rfl ?_
                                      have FQ : ∀ q : Nat, (q : Int) < z285.toInt → fr_ok hp276 13 fr q := by
                                        intro q hq
                                        by_cases hqk : (q : Int) < k56.toInt
                                        · exact fr_ok_same (i63 q hqk) ((ehp276 _ _ (Or.inl (by decide))).trans ((ehp262 _ _ (Or.inr (by omega))).trans (ehp243 _ _ (Or.inl (by decide))))) ((ehp276 _ _ (Or.inl (by decide))).trans ((ehp262 _ _ (Or.inl (by decide))).trans (ehp243 _ _ (Or.inl (by decide))))) ((ehp276 _ _ (Or.inl (by decide))).trans ((ehp262 _ _ (Or.inl (by decide))).trans (ehp243 _ _ (Or.inl (by decide)))))
                                        · have eq : q = k56.toInt.toNat := by omega
                                          subst eq
                                          exact ⟨z261.toInt, z254.toInt, z238.toInt, h283, ((ehp276 _ _ (Or.inl (by decide))).trans (ehp262 _ _ (Or.inl (by decide)))).trans (bs_at hz254 (by omega)), ((ehp276 _ _ (Or.inl (by decide))).trans ((ehp262 _ _ (Or.inl (by decide))).trans (ehp243 _ _ (Or.inl (by decide))))).trans (bs_at hz238 (by omega)), by omega, by omega, by omega⟩
                                      refine ih60 (z285, (some (.int z240)), hp276, t58) ⟨Hhp276, Fhp276, h277, (by first | omega | assumption), (by first | exact FQ | exact fun q hq => absurd hq (by omega))⟩ ?_
                                      show (6 - z285.toInt).toNat < (6 - k56.toInt).toNat
                                      omega
                    · skip
                      refine Ev.step (j := 56) (s' := ([some (.ref 7), some (.ref a1), some (.ref 12), some (.int z23), some (.int z28), some (.int z40), some (.int k46), none], [.int z28], (0, 0), hp47)) rfl rfl ?_
                      exact by
                       refine Ev.step (j := 57) (s' := ([some (.ref 7), some (.ref a1), some (.ref 12), some (.int z23), some (.int z28), some (.int z40), some (.int k46), none], [.ref 7, .int z28], (0, 0), hp47)) rfl rfl ?_
                       refine bs_getI 1 rfl rfl rfl Hhp47 (bs_R.uq Hhp47 (g := 1) rfl) (by decide) rfl fun z286 hz286 lz286 gz286 => ?_
                       first | (refine bs_sub rfl (by omega) (by omega) fun z287 hz287 => ?_) | (refine bs_any rfl fun z287 => ?_)
                       have rz287 := n_range z287
                       refine bs_lit (k := 2) rfl rfl fun z288 hz288 => ?_
                       refine bs_lt rfl (fun c289 => ?_) (fun c289 => ?_)
                       · skip
                         refine bs_lit (k := 0) rfl rfl fun z290 hz290 => ?_
                         refine Ev.step (j := 118) (s' := ([some (.ref 7), some (.ref a1), some (.ref 12), some (.int z23), some (.int z28), some (.int z40), some (.int z290), none], [], (0, 0), hp47)) rfl rfl ?_
                         exact by
                          refine bs_loop (ι := Int32 × (Option Value) × ab_H × (Nat → Nat)) (fun ⟨k291, o294, hp292, t293⟩ => ([some (.ref 7), some (.ref a1), some (.ref 12), some (.int z23), some (.int z28), some (.int z40), some (.int k291), o294], [], (0, 0), hp292)) (fun ⟨k291, o294, hp292, t293⟩ => (sf_h t293 hp292) ∧ (sf_fr [(1, 2, 3), (6, 7, 9), (100, 0, 5), (101, 0, 5), (149, 0, 11), (151, 0, 11), (152, 0, 11), (153, 0, 7), (154, 0, 7), (155, 0, 63)] t hp t293 hp292) ∧ (sf_rd hp292 12 7 = some z12.toInt) ∧ (0 ≤ k291.toInt ∧ k291.toInt ≤ 6) ∧ (∀ q : Nat, (q : Int) < k291.toInt → fr_ok hp292 13 fr q)) (fun ⟨k291, o294, hp292, t293⟩ => (6 - k291.toInt).toNat) ?_ (z290, none, hp47, t48) ⟨Hhp47, Fhp47, i50, (by first | omega | assumption), (by first | exact FQ | exact fun q hq => absurd hq (by omega))⟩
                          rintro ⟨k291, o294, hp292, t293⟩ ⟨Hhp292, Fhp292, i296, i297, i298⟩ ih295
                          refine (show Ev _ 118 ([some (.ref 7), some (.ref a1), some (.ref 12), some (.int z23), some (.int z28), some (.int z40), some (.int k291), o294], [], (0, 0), hp292) _ from ?_)
                          refine Ev.step (j := 120) (s' := ([some (.ref 7), some (.ref a1), some (.ref 12), some (.int z23), some (.int z28), some (.int z40), some (.int k291), o294], [.int k291], (0, 0), hp292)) rfl rfl ?_
                          refine Ev.step (j := 121) (s' := ([some (.ref 7), some (.ref a1), some (.ref 12), some (.int z23), some (.int z28), some (.int z40), some (.int k291), o294], [.ref a1, .int k291], (0, 0), hp292)) rfl rfl ?_
                          refine bs_getI 7 rfl rfl rfl Hhp292 (ra1.fr Fhp292) (by decide) rfl fun z299 hz299 lz299 gz299 => ?_
                          have e300 : z299.toInt = G := Option.some.inj (hz299.symm.trans ((Fhp292.2.2.1 _ ra1.1 _ (by rw [ra1.2]; rfl)).trans hG))
                          refine bs_ge rfl (fun c301 => ?_) (fun c301 => ?_)
                          · skip
                            have FR : ∀ q : Nat, (q : Int) < G → fr_ok hp292 13 fr q := fun q hq => i298 q (by omega)
                            refine Ev.ret rfl rfl ?_
                            rw [← hQ18]
                            refine (show Ev _ 31 ([some (.ref 7), some (.ref a1), some (.ref 12), some (.int x3), some (.int z1), some (.int k3)], [], (0, 0), hp292) _ from ?_)
                            exact by
                             refine Ev.step (j := 32) (s' := ([some (.ref 7), some (.ref a1), some (.ref 12), some (.int x3), some (.int z1), some (.int k3)], [.ref 7], (0, 0), hp292)) rfl rfl ?_
                             refine Ev.step (j := 33) (s' := ([some (.ref 7), some (.ref a1), some (.ref 12), some (.int x3), some (.int z1), some (.int k3)], [.ref a1, .ref 7], (0, 0), hp292)) rfl rfl ?_
                             refine Ev.step (j := 34) (s' := ([some (.ref 7), some (.ref a1), some (.ref 12), some (.int x3), some (.int z1), some (.int k3)], [.ref 12, .ref a1, .ref 7], (0, 0), hp292)) rfl rfl ?_
                             refine Ev.inl (L := (L_X1_carry Z_X6_ferryShore Z_X10_slotOf)) (nL := 5) rfl (bs_rcv (g := 1) Hhp292 (bs_R.uq Hhp292 (g := 1) rfl) (by decide) rfl) rfl (Nat.le_of_ble_eq_true rfl) ?_
                             generalize hQ302 : (fun (o : ab_O) => Ev _ _ _ _) = Q302
                             refine (show Ev (ab_T (L_X1_carry Z_X6_ferryShore Z_X10_slotOf)) 0 ([some (.ref 7), some (.ref a1), some (.ref 12), none, none], [], (0, 0), hp292) Q302 from ?_)
                             refine Ev.step (j := 1) (s' := ([some (.ref 7), some (.ref a1), some (.ref 12), none, none], [.ref 12], (0, 0), hp292)) rfl rfl ?_
                             refine Ev.inl (L := L_X6_ferryShore) (nL := 1) rfl (bs_rcv (g := 6) Hhp292 (bs_R.uq Hhp292 (g := 6) rfl) (by decide) rfl) rfl (Nat.le_of_ble_eq_true rfl) ?_
                             generalize hQ303 : (fun (o : ab_O) => Ev _ _ _ _) = Q303
                             refine (show Ev (ab_T L_X6_ferryShore) 0 ([some (.ref 12)], [], (0, 0), hp292) Q303 from ?_)
                             exact by
                              refine Ev.step (j := 1) (s' := ([some (.ref 12)], [.ref 12], (0, 0), hp292)) rfl rfl ?_
                              refine bs_getI 6 rfl rfl rfl Hhp292 (bs_R.uq Hhp292 (g := 6) rfl) (by decide) rfl fun z304 hz304 lz304 gz304 => ?_
                              have e305 : z304.toInt = z12.toInt := Option.some.inj (hz304.symm.trans i296)
                              refine bs_lit (k := 2) rfl rfl fun z306 hz306 => ?_
                              refine bs_rem 2 rfl hz306 (by decide) (by omega) fun z307 hz307 => ?_
                              refine Ev.ret rfl rfl ?_
                              rw [← hQ303]
                              refine (show Ev _ 4 ([some (.ref 7), some (.ref a1), some (.ref 12), none, none], [.int z307], (0, 0), hp292) _ from ?_)
                              refine Ev.step (j := 5) (s' := ([some (.ref 7), some (.ref a1), some (.ref 12), some (.int z307), none], [], (0, 0), hp292)) rfl rfl ?_
                              exact by
                               refine bs_lit (k := 0) rfl rfl fun z308 hz308 => ?_
                               refine Ev.step (j := 8) (s' := ([some (.ref 7), some (.ref a1), some (.ref 12), some (.int z307), some (.int z308)], [], (0, 0), hp292)) rfl rfl ?_
                               refine bs_loop (ι := Int32 × ab_H × (Nat → Nat)) (fun ⟨k309, hp310, t311⟩ => ([some (.ref 7), some (.ref a1), some (.ref 12), some (.int z307), some (.int k309)], [], (0, 0), hp310)) (fun ⟨k309, hp310, t311⟩ => (sf_h t311 hp310) ∧ (sf_fr [(1, 2, 3), (6, 7, 9), (100, 0, 5), (101, 0, 5), (149, 0, 11), (151, 0, 11), (152, 0, 11), (153, 0, 7), (154, 0, 7), (155, 0, 63)] t hp t311 hp310) ∧ (sf_rd hp310 12 7 = some z12.toInt) ∧ (0 ≤ k309.toInt ∧ k309.toInt ≤ 8) ∧ (∀ q : Nat, (q : Int) < G → fr_ok hp310 13 fr q)) (fun ⟨k309, hp310, t311⟩ => (8 - k309.toInt).toNat) ?_ (z308, hp292, t293) ⟨Hhp292, Fhp292, i296, (by first | omega | assumption), (by first | exact FR2 | exact FR)⟩
                               rintro ⟨k309, hp310, t311⟩ ⟨Hhp310, Fhp310, i313, i314, i315⟩ ih312
                               refine (show Ev _ 8 ([some (.ref 7), some (.ref a1), some (.ref 12), some (.int z307), some (.int k309)], [], (0, 0), hp310) _ from ?_)
                               refine Ev.step (j := 10) (s' := ([some (.ref 7), some (.ref a1), some (.ref 12), some (.int z307), some (.int k309)], [.int k309], (0, 0), hp310)) rfl rfl ?_
                               refine Ev.step (j := 11) (s' := ([some (.ref 7), some (.ref a1), some (.ref 12), some (.int z307), some (.int k309)], [.ref a1, .int k309], (0, 0), hp310)) rfl rfl ?_
                               refine bs_getI 7 rfl rfl rfl Hhp310 (ra1.fr Fhp310) (by decide) rfl fun z316 hz316 lz316 gz316 => ?_
                               have e317 : z316.toInt = M := Option.some.inj (hz316.symm.trans ((Fhp310.2.2.1 _ ra1.1 _ (by rw [ra1.2]; rfl)).trans hM))
                               refine bs_ge rfl (fun c318 => ?_) (fun c318 => ?_)
                               · skip
                                 refine bs_lit (k := 0) rfl rfl fun z319 hz319 => ?_
                                 exact by
                                  refine Ev.step (j := 59) (s' := ([some (.ref 7), some (.ref a1), some (.ref 12), some (.int z307), some (.int z319)], [], (0, 0), hp310)) rfl rfl ?_
                                  refine bs_loop (ι := Int32 × ab_H × (Nat → Nat)) (fun ⟨k320, hp321, t322⟩ => ([some (.ref 7), some (.ref a1), some (.ref 12), some (.int z307), some (.int k320)], [], (0, 0), hp321)) (fun ⟨k320, hp321, t322⟩ => (sf_h t322 hp321) ∧ (sf_fr [(1, 2, 3), (6, 7, 9), (100, 0, 5), (101, 0, 5), (149, 0, 11), (151, 0, 11), (152, 0, 11), (153, 0, 7), (154, 0, 7), (155, 0, 63)] t hp t322 hp321) ∧ (sf_rd hp321 12 7 = some z12.toInt) ∧ (0 ≤ k320.toInt ∧ k320.toInt ≤ 6) ∧ (∀ q : Nat, k320.toInt ≤ (q : Int) → (q : Int) < G → fr_ok hp321 13 fr q)) (fun ⟨k320, hp321, t322⟩ => (6 - k320.toInt).toNat) ?_ (z319, hp310, t311) ⟨Hhp310, Fhp310, i313, (by first | omega | assumption), (by first | exact FR3 | exact fun q _ hq => i315 q hq)⟩
                                  rintro ⟨k320, hp321, t322⟩ ⟨Hhp321, Fhp321, i324, i325, i326⟩ ih323
                                  refine (show Ev _ 59 ([some (.ref 7), some (.ref a1), some (.ref 12), some (.int z307), some (.int k320)], [], (0, 0), hp321) _ from ?_)
                                  refine Ev.step (j := 61) (s' := ([some (.ref 7), some (.ref a1), some (.ref 12), some (.int z307), some (.int k320)], [.int k320], (0, 0), hp321)) rfl rfl ?_
                                  refine Ev.step (j := 62) (s' := ([some (.ref 7), some (.ref a1), some (.ref 12), some (.int z307), some (.int k320)], [.ref a1, .int k320], (0, 0), hp321)) rfl rfl ?_
                                  refine bs_getI 7 rfl rfl rfl Hhp321 (ra1.fr Fhp321) (by decide) rfl fun z327 hz327 lz327 gz327 => ?_
                                  have e328 : z327.toInt = G := Option.some.inj (hz327.symm.trans ((Fhp321.2.2.1 _ ra1.1 _ (by rw [ra1.2]; rfl)).trans hG))
                                  refine bs_ge rfl (fun c329 => ?_) (fun c329 => ?_)
                                  · skip
                                    refine Ev.step (j := 142) (s' := ([some (.ref 7), some (.ref a1), some (.ref 12), some (.int z307), some (.int k320)], [.ref 12], (0, 0), hp321)) rfl rfl ?_
                                    exact by
                                     refine Ev.step (j := 143) (s' := ([some (.ref 7), some (.ref a1), some (.ref 12), some (.int z307), some (.int k320)], [.ref 12, .ref 12], (0, 0), hp321)) rfl rfl ?_
                                     refine bs_getI 6 rfl rfl rfl Hhp321 (bs_R.uq Hhp321 (g := 6) rfl) (by decide) rfl fun z330 hz330 lz330 gz330 => ?_
                                     refine Ev.step (j := 147) (s' := ([some (.ref 7), some (.ref a1), some (.ref 12), some (.int z307), some (.int k320)], [.ref 7, .int z330, .ref 12], (0, 0), hp321)) rfl rfl ?_
                                     refine bs_getI 1 rfl rfl rfl Hhp321 (bs_R.uq Hhp321 (g := 1) rfl) (by decide) rfl fun z331 hz331 lz331 gz331 => ?_
                                     first | (refine bs_add rfl (by omega) (by omega) fun z332 hz332 => ?_) | (refine bs_any rfl fun z332 => ?_)
                                     have rz332 := n_range z332
                                     refine bs_putI (W := [(6, 9, 9)]) (g := 6) rfl rfl Hhp321 (bs_R.uq Hhp321 (g := 6) rfl) (by decide) rfl rfl rfl rfl (Or.inl rfl) (by omega) (by omega) fun hp333 Hhp333 fhp333 rhp333 ehp333 qhp333 nhp333 => ?_
                                     have Fhp333 := sf_fr_tr Fhp321 (sf_fr_wider (W := [(1, 2, 3), (6, 7, 9), (100, 0, 5), (101, 0, 5), (149, 0, 11), (151, 0, 11), (152, 0, 11), (153, 0, 7), (154, 0, 7), (155, 0, 63)]) rfl fhp333)
                                     have h334 : sf_rd hp333 12 7 = some z12.toInt := (ehp333 _ _ (Or.inr (by omega))).trans i324
                                     have h335 : sf_rd hp333 a1 8 = some z327.toInt := (ehp333 _ _ (Or.inl (bs_nq (ra1.fr Fhp321) (bs_R.uq Hhp321 (g := 6) rfl) (by decide)))).trans hz327
                                     have h336 : sf_rd hp333 7 3 = some z331.toInt := (ehp333 _ _ (Or.inl (by decide))).trans hz331
                                     refine Ev.step (j := 155) (s' := ([some (.ref 7), some (.ref a1), some (.ref 12), some (.int z307), some (.int k320)], [.ref 7], (0, 0), hp333)) rfl rfl ?_
                                     exact by
                                      refine bs_getI 1 rfl rfl rfl Hhp333 (bs_R.uq Hhp333 (g := 1) rfl) (by decide) rfl fun z337 hz337 lz337 gz337 => ?_
                                      have e338 : z337.toInt = z331.toInt := Option.some.inj (hz337.symm.trans h336)
                                      refine bs_ifne rfl (fun c339 => ?_) (fun c339 => ?_)
                                      · skip
                                        refine Ev.ret rfl rfl ?_
                                        rw [← hQ302]
                                        refine (show Ev _ 37 ([some (.ref 7), some (.ref a1), some (.ref 12), some (.int x3), some (.int z1), some (.int k3)], [], (0, 0), hp333) _ from ?_)
                                        refine Ev.step (j := 38) (s' := ([some (.ref 7), some (.ref a1), some (.ref 12), some (.int x3), some (.int z1), some (.int k3)], [.ref 12], (0, 0), hp333)) rfl rfl ?_
                                        refine Ev.step (j := 39) (s' := ([some (.ref 7), some (.ref a1), some (.ref 12), some (.int x3), some (.int z1), some (.int k3)], [.ref a1, .ref 12], (0, 0), hp333)) rfl rfl ?_
                                        refine bs_call (K := kq_X6_makeAndEat_d5e88f) [.ref 12, .ref a1] [] rfl ct_X6_makeAndEat_d5e88f Hhp333 rfl rfl rfl (bs_rcv (g := 6) Hhp333 (bs_R.uq Hhp333 (g := 6) rfl) (by decide) rfl) rfl ?_ (sf_S_nil) fun r340 hp341 thp341 Hhp341 fhp341 ahp341 php341 => ?_
                                        · intro q k h
                                          match q, h with
                                          | 0, h => cases h; exact bs_jR (bs_R.uq Hhp333 (g := 6) rfl)
                                          | 1, h => cases h; exact bs_jR (ra1.fr Fhp333)
                                          | q + 2, h => cases h
                                        obtain rfl := ahp341.1 rfl
                                        have Fhp341 := sf_fr_tr Fhp333 (sf_fr_wider (W := [(1, 2, 3), (6, 7, 9), (100, 0, 5), (101, 0, 5), (149, 0, 11), (151, 0, 11), (152, 0, 11), (153, 0, 7), (154, 0, 7), (155, 0, 63)]) rfl fhp341)
                                        have h342 : sf_rd hp341 12 7 = some z12.toInt := (fhp341.2.2.1 _ (bs_R.uq Hhp333 (g := 6) (p := 12) rfl).1 _ (by rw [(bs_R.uq Hhp333 (g := 6) (p := 12) rfl).2]; rfl)).trans h334
                                        have h343 : sf_rd hp341 a1 8 = some z327.toInt := (fhp341.2.2.1 _ (ra1.fr Fhp333).1 _ (by rw [(ra1.fr Fhp333).2]; rfl)).trans h335
                                        have h344 : sf_rd hp341 7 3 = some z331.toInt := (fhp341.2.2.1 _ (bs_R.uq Hhp333 (g := 1) (p := 7) rfl).1 _ (by rw [(bs_R.uq Hhp333 (g := 1) (p := 7) rfl).2]; rfl)).trans h336
                                        have h345 : sf_rd hp341 12 9 = some z332.toInt := (fhp341.2.2.1 _ (bs_R.uq Hhp333 (g := 6) (p := 12) rfl).1 _ (by rw [(bs_R.uq Hhp333 (g := 6) (p := 12) rfl).2]; rfl)).trans rhp333
                                        refine (show Ev _ 42 ([some (.ref 7), some (.ref a1), some (.ref 12), some (.int x3), some (.int z1), some (.int k3)], [], (0, 0), hp341) _ from ?_)
                                        exact by
                                         refine Ev.step (j := 43) (s' := ([some (.ref 7), some (.ref a1), some (.ref 12), some (.int x3), some (.int z1), some (.int k3)], [.ref 12], (0, 0), hp341)) rfl rfl ?_
                                         refine Ev.step (j := 44) (s' := ([some (.ref 7), some (.ref a1), some (.ref 12), some (.int x3), some (.int z1), some (.int k3)], [.ref a1, .ref 12], (0, 0), hp341)) rfl rfl ?_
                                         refine bs_call (K := kq_X6_countApart_d5e88f) [.ref 12, .ref a1] [] rfl ct_X6_countApart_d5e88f Hhp341 rfl rfl rfl (bs_rcv (g := 6) Hhp341 (bs_R.uq Hhp341 (g := 6) rfl) (by decide) rfl) rfl ?_ (sf_S_nil) fun r346 hp347 thp347 Hhp347 fhp347 ahp347 php347 => ?_
                                         · intro q k h
                                           match q, h with
                                           | 0, h => cases h; exact bs_jR (bs_R.uq Hhp341 (g := 6) rfl)
                                           | 1, h => cases h; exact bs_jR (ra1.fr Fhp341)
                                           | q + 2, h => cases h
                                         obtain rfl := ahp347.1 rfl
                                         have Fhp347 := sf_fr_tr Fhp341 (sf_fr_wider (W := [(1, 2, 3), (6, 7, 9), (100, 0, 5), (101, 0, 5), (149, 0, 11), (151, 0, 11), (152, 0, 11), (153, 0, 7), (154, 0, 7), (155, 0, 63)]) rfl fhp347)
                                         have h348 : sf_rd hp347 12 7 = some z12.toInt := (fhp347.2.2.1 _ (bs_R.uq Hhp341 (g := 6) (p := 12) rfl).1 _ (by rw [(bs_R.uq Hhp341 (g := 6) (p := 12) rfl).2]; rfl)).trans h342
                                         have h349 : sf_rd hp347 a1 8 = some z327.toInt := (fhp347.2.2.1 _ (ra1.fr Fhp341).1 _ (by rw [(ra1.fr Fhp341).2]; rfl)).trans h343
                                         have h350 : sf_rd hp347 7 3 = some z331.toInt := (fhp347.2.2.1 _ (bs_R.uq Hhp341 (g := 1) (p := 7) rfl).1 _ (by rw [(bs_R.uq Hhp341 (g := 1) (p := 7) rfl).2]; rfl)).trans h344
                                         have h351 : sf_rd hp347 12 9 = some z332.toInt := (fhp347.2.2.1 _ (bs_R.uq Hhp341 (g := 6) (p := 12) rfl).1 _ (by rw [(bs_R.uq Hhp341 (g := 6) (p := 12) rfl).2]; rfl)).trans h345
                                         refine (show Ev _ 47 ([some (.ref 7), some (.ref a1), some (.ref 12), some (.int x3), some (.int z1), some (.int k3)], [], (0, 0), hp347) _ from ?_)
                                         exact by
                                          refine Ev.step (j := 48) (s' := ([some (.ref 7), some (.ref a1), some (.ref 12), some (.int x3), some (.int z1), some (.int k3)], [.ref 12], (0, 0), hp347)) rfl rfl ?_
                                          refine Ev.step (j := 49) (s' := ([some (.ref 7), some (.ref a1), some (.ref 12), some (.int x3), some (.int z1), some (.int k3)], [.ref 12, .ref 12], (0, 0), hp347)) rfl rfl ?_
                                          refine bs_getI 6 rfl rfl rfl Hhp347 (bs_R.uq Hhp347 (g := 6) rfl) (by decide) rfl fun z352 hz352 lz352 gz352 => ?_
                                          have e353 : z352.toInt = z12.toInt := Option.some.inj (hz352.symm.trans h348)
                                          refine bs_lit (k := 1) rfl rfl fun z354 hz354 => ?_
                                          first | (refine bs_add rfl (by omega) (by omega) fun z355 hz355 => ?_) | (refine bs_any rfl fun z355 => ?_)
                                          have rz355 := n_range z355
                                          refine bs_putI (W := [(6, 7, 7)]) (g := 6) rfl rfl Hhp347 (bs_R.uq Hhp347 (g := 6) rfl) (by decide) rfl rfl rfl rfl (Or.inl rfl) (by omega) (by omega) fun hp356 Hhp356 fhp356 rhp356 ehp356 qhp356 nhp356 => ?_
                                          have Fhp356 := sf_fr_tr Fhp347 (sf_fr_wider (W := [(1, 2, 3), (6, 7, 9), (100, 0, 5), (101, 0, 5), (149, 0, 11), (151, 0, 11), (152, 0, 11), (153, 0, 7), (154, 0, 7), (155, 0, 63)]) rfl fhp356)
                                          have h357 : sf_rd hp356 a1 8 = some z327.toInt := (ehp356 _ _ (Or.inl (bs_nq (ra1.fr Fhp347) (bs_R.uq Hhp347 (g := 6) rfl) (by decide)))).trans h349
                                          have h358 : sf_rd hp356 7 3 = some z331.toInt := (ehp356 _ _ (Or.inl (by decide))).trans h350
                                          have h359 : sf_rd hp356 12 9 = some z332.toInt := (ehp356 _ _ (Or.inr (by omega))).trans h351
                                          refine bs_iinc (1) rfl rfl rfl rfl (by omega) (by omega) fun z360 hz360 => ?_
                                          exact by
                                           refine (show Ev _ 60 ([some (.ref 7), some (.ref a1), some (.ref 12), some (.int x3), some (.int z1), some (.int z360)], [], (0, 0), hp356) _ from ?_)
                                           refine Ev.step (j := 9) (s' := ([some (.ref 7), some (.ref a1), some (.ref 12), some (.int x3), some (.int z1), some (.int z360)], [], (0, 0), hp356)) rfl rfl ?_
                                           refine ih6 (z360, hp356, thp347) ⟨Hhp356, Fhp356, (by first | omega | assumption), (by first | omega | assumption)⟩ ?_
                                           show (x3.toInt - z360.toInt).toNat < (x3.toInt - k3.toInt).toNat
                                           omega
                                      · skip
                                        have c361 : z337.toInt = 0 := by omega
                                        refine Ev.step (j := 162) (s' := ([some (.ref 7), some (.ref a1), some (.ref 12), some (.int z307), some (.int k320)], [.ref 12], (0, 0), hp333)) rfl rfl ?_
                                        exact by
                                         refine Ev.step (j := 163) (s' := ([some (.ref 7), some (.ref a1), some (.ref 12), some (.int z307), some (.int k320)], [.ref 12, .ref 12], (0, 0), hp333)) rfl rfl ?_
                                         refine bs_getI 6 rfl rfl rfl Hhp333 (bs_R.uq Hhp333 (g := 6) rfl) (by decide) rfl fun z362 hz362 lz362 gz362 => ?_
                                         refine bs_lit (k := 1) rfl rfl fun z363 hz363 => ?_
                                         first | (refine bs_add rfl (by omega) (by omega) fun z364 hz364 => ?_) | (refine bs_any rfl fun z364 => ?_)
                                         have rz364 := n_range z364
                                         refine bs_putI (W := [(6, 8, 8)]) (g := 6) rfl rfl Hhp333 (bs_R.uq Hhp333 (g := 6) rfl) (by decide) rfl rfl rfl rfl (Or.inl rfl) (by omega) (by omega) fun hp365 Hhp365 fhp365 rhp365 ehp365 qhp365 nhp365 => ?_
                                         have Fhp365 := sf_fr_tr Fhp333 (sf_fr_wider (W := [(1, 2, 3), (6, 7, 9), (100, 0, 5), (101, 0, 5), (149, 0, 11), (151, 0, 11), (152, 0, 11), (153, 0, 7), (154, 0, 7), (155, 0, 63)]) rfl fhp365)
                                         have h366 : sf_rd hp365 12 7 = some z12.toInt := (ehp365 _ _ (Or.inr (by omega))).trans h334
                                         have h367 : sf_rd hp365 a1 8 = some z327.toInt := (ehp365 _ _ (Or.inl (bs_nq (ra1.fr Fhp333) (bs_R.uq Hhp333 (g := 6) rfl) (by decide)))).trans h335
                                         have h368 : sf_rd hp365 7 3 = some z331.toInt := (ehp365 _ _ (Or.inl (by decide))).trans h336
                                         have h369 : sf_rd hp365 12 9 = some z332.toInt := (ehp365 _ _ (Or.inr (by omega))).trans rhp333
                                         refine Ev.ret rfl rfl ?_
                                         rw [← hQ302]
                                         refine (show Ev _ 37 ([some (.ref 7), some (.ref a1), some (.ref 12), some (.int x3), some (.int z1), some (.int k3)], [], (0, 0), hp365) _ from ?_)
                                         exact by
                                          refine Ev.step (j := 38) (s' := ([some (.ref 7), some (.ref a1), some (.ref 12), some (.int x3), some (.int z1), some (.int k3)], [.ref 12], (0, 0), hp365)) rfl rfl ?_
                                          refine Ev.step (j := 39) (s' := ([some (.ref 7), some (.ref a1), some (.ref 12), some (.int x3), some (.int z1), some (.int k3)], [.ref a1, .ref 12], (0, 0), hp365)) rfl rfl ?_
                                          refine bs_call (K := kq_X6_makeAndEat_d5e88f) [.ref 12, .ref a1] [] rfl ct_X6_makeAndEat_d5e88f Hhp365 rfl rfl rfl (bs_rcv (g := 6) Hhp365 (bs_R.uq Hhp365 (g := 6) rfl) (by decide) rfl) rfl ?_ (sf_S_nil) fun r370 hp371 thp371 Hhp371 fhp371 ahp371 php371 => ?_
                                          · intro q k h
                                            match q, h with
                                            | 0, h => cases h; exact bs_jR (bs_R.uq Hhp365 (g := 6) rfl)
                                            | 1, h => cases h; exact bs_jR (ra1.fr Fhp365)
                                            | q + 2, h => cases h
                                          obtain rfl := ahp371.1 rfl
                                          have Fhp371 := sf_fr_tr Fhp365 (sf_fr_wider (W := [(1, 2, 3), (6, 7, 9), (100, 0, 5), (101, 0, 5), (149, 0, 11), (151, 0, 11), (152, 0, 11), (153, 0, 7), (154, 0, 7), (155, 0, 63)]) rfl fhp371)
                                          have h372 : sf_rd hp371 12 7 = some z12.toInt := (fhp371.2.2.1 _ (bs_R.uq Hhp365 (g := 6) (p := 12) rfl).1 _ (by rw [(bs_R.uq Hhp365 (g := 6) (p := 12) rfl).2]; rfl)).trans h366
                                          have h373 : sf_rd hp371 a1 8 = some z327.toInt := (fhp371.2.2.1 _ (ra1.fr Fhp365).1 _ (by rw [(ra1.fr Fhp365).2]; rfl)).trans h367
                                          have h374 : sf_rd hp371 7 3 = some z331.toInt := (fhp371.2.2.1 _ (bs_R.uq Hhp365 (g := 1) (p := 7) rfl).1 _ (by rw [(bs_R.uq Hhp365 (g := 1) (p := 7) rfl).2]; rfl)).trans h368
                                          have h375 : sf_rd hp371 12 9 = some z332.toInt := (fhp371.2.2.1 _ (bs_R.uq Hhp365 (g := 6) (p := 12) rfl).1 _ (by rw [(bs_R.uq Hhp365 (g := 6) (p := 12) rfl).2]; rfl)).trans h369
                                          have h376 : sf_rd hp371 12 8 = some z364.toInt := (fhp371.2.2.1 _ (bs_R.uq Hhp365 (g := 6) (p := 12) rfl).1 _ (by rw [(bs_R.uq Hhp365 (g := 6) (p := 12) rfl).2]; rfl)).trans rhp365
                                          refine (show Ev _ 42 ([some (.ref 7), some (.ref a1), some (.ref 12), some (.int x3), some (.int z1), some (.int k3)], [], (0, 0), hp371) _ from ?_)
                                          exact by
                                           refine Ev.step (j := 43) (s' := ([some (.ref 7), some (.ref a1), some (.ref 12), some (.int x3), some (.int z1), some (.int k3)], [.ref 12], (0, 0), hp371)) rfl rfl ?_
                                           refine Ev.step (j := 44) (s' := ([some (.ref 7), some (.ref a1), some (.ref 12), some (.int x3), some (.int z1), some (.int k3)], [.ref a1, .ref 12], (0, 0), hp371)) rfl rfl ?_
                                           refine bs_call (K := kq_X6_countApart_d5e88f) [.ref 12, .ref a1] [] rfl ct_X6_countApart_d5e88f Hhp371 rfl rfl rfl (bs_rcv (g := 6) Hhp371 (bs_R.uq Hhp371 (g := 6) rfl) (by decide) rfl) rfl ?_ (sf_S_nil) fun r377 hp378 thp378 Hhp378 fhp378 ahp378 php378 => ?_
                                           · intro q k h
                                             match q, h with
                                             | 0, h => cases h; exact bs_jR (bs_R.uq Hhp371 (g := 6) rfl)
                                             | 1, h => cases h; exact bs_jR (ra1.fr Fhp371)
                                             | q + 2, h => cases h
                                           obtain rfl := ahp378.1 rfl
                                           have Fhp378 := sf_fr_tr Fhp371 (sf_fr_wider (W := [(1, 2, 3), (6, 7, 9), (100, 0, 5), (101, 0, 5), (149, 0, 11), (151, 0, 11), (152, 0, 11), (153, 0, 7), (154, 0, 7), (155, 0, 63)]) rfl fhp378)
                                           have h379 : sf_rd hp378 12 7 = some z12.toInt := (fhp378.2.2.1 _ (bs_R.uq Hhp371 (g := 6) (p := 12) rfl).1 _ (by rw [(bs_R.uq Hhp371 (g := 6) (p := 12) rfl).2]; rfl)).trans h372
                                           have h380 : sf_rd hp378 a1 8 = some z327.toInt := (fhp378.2.2.1 _ (ra1.fr Fhp371).1 _ (by rw [(ra1.fr Fhp371).2]; rfl)).trans h373
                                           have h381 : sf_rd hp378 7 3 = some z331.toInt := (fhp378.2.2.1 _ (bs_R.uq Hhp371 (g := 1) (p := 7) rfl).1 _ (by rw [(bs_R.uq Hhp371 (g := 1) (p := 7) rfl).2]; rfl)).trans h374
                                           have h382 : sf_rd hp378 12 9 = some z332.toInt := (fhp378.2.2.1 _ (bs_R.uq Hhp371 (g := 6) (p := 12) rfl).1 _ (by rw [(bs_R.uq Hhp371 (g := 6) (p := 12) rfl).2]; rfl)).trans h375
                                           have h383 : sf_rd hp378 12 8 = some z364.toInt := (fhp378.2.2.1 _ (bs_R.uq Hhp371 (g := 6) (p := 12) rfl).1 _ (by rw [(bs_R.uq Hhp371 (g := 6) (p := 12) rfl).2]; rfl)).trans h376
                                           refine (show Ev _ 47 ([some (.ref 7), some (.ref a1), some (.ref 12), some (.int x3), some (.int z1), some (.int k3)], [], (0, 0), hp378) _ from ?_)
                                           exact by
                                            refine Ev.step (j := 48) (s' := ([some (.ref 7), some (.ref a1), some (.ref 12), some (.int x3), some (.int z1), some (.int k3)], [.ref 12], (0, 0), hp378)) rfl rfl ?_
                                            refine Ev.step (j := 49) (s' := ([some (.ref 7), some (.ref a1), some (.ref 12), some (.int x3), some (.int z1), some (.int k3)], [.ref 12, .ref 12], (0, 0), hp378)) rfl rfl ?_
                                            refine bs_getI 6 rfl rfl rfl Hhp378 (bs_R.uq Hhp378 (g := 6) rfl) (by decide) rfl fun z384 hz384 lz384 gz384 => ?_
                                            have e385 : z384.toInt = z12.toInt := Option.some.inj (hz384.symm.trans h379)
                                            refine bs_lit (k := 1) rfl rfl fun z386 hz386 => ?_
                                            first | (refine bs_add rfl (by omega) (by omega) fun z387 hz387 => ?_) | (refine bs_any rfl fun z387 => ?_)
                                            have rz387 := n_range z387
                                            refine bs_putI (W := [(6, 7, 7)]) (g := 6) rfl rfl Hhp378 (bs_R.uq Hhp378 (g := 6) rfl) (by decide) rfl rfl rfl rfl (Or.inl rfl) (by omega) (by omega) fun hp388 Hhp388 fhp388 rhp388 ehp388 qhp388 nhp388 => ?_
                                            have Fhp388 := sf_fr_tr Fhp378 (sf_fr_wider (W := [(1, 2, 3), (6, 7, 9), (100, 0, 5), (101, 0, 5), (149, 0, 11), (151, 0, 11), (152, 0, 11), (153, 0, 7), (154, 0, 7), (155, 0, 63)]) rfl fhp388)
                                            have h389 : sf_rd hp388 a1 8 = some z327.toInt := (ehp388 _ _ (Or.inl (bs_nq (ra1.fr Fhp378) (bs_R.uq Hhp378 (g := 6) rfl) (by decide)))).trans h380
                                            have h390 : sf_rd hp388 7 3 = some z331.toInt := (ehp388 _ _ (Or.inl (by decide))).trans h381
                                            have h391 : sf_rd hp388 12 9 = some z332.toInt := (ehp388 _ _ (Or.inr (by omega))).trans h382
                                            have h392 : sf_rd hp388 12 8 = some z364.toInt := (ehp388 _ _ (Or.inr (by omega))).trans h383
                                            refine bs_iinc (1) rfl rfl rfl rfl (by omega) (by omega) fun z393 hz393 => ?_
                                            exact by
                                             refine (show Ev _ 60 ([some (.ref 7), some (.ref a1), some (.ref 12), some (.int x3), some (.int z1), some (.int z393)], [], (0, 0), hp388) _ from ?_)
                                             refine Ev.step (j := 9) (s' := ([some (.ref 7), some (.ref a1), some (.ref 12), some (.int x3), some (.int z1), some (.int z393)], [], (0, 0), hp388)) rfl rfl ?_
                                             refine ih6 (z393, hp388, thp378) ⟨Hhp388, Fhp388, (by first | omega | assumption), (by first | omega | assumption)⟩ ?_
                                             show (x3.toInt - z393.toInt).toNat < (x3.toInt - k3.toInt).toNat
                                             omega
                                  · skip
                                    obtain ⟨fv, xv, yv, hfv, hxv, hyv, f0, f1, f2⟩ := i326 k320.toInt.toNat (by omega) (by omega)
                                    refine Ev.step (j := 69) (s' := ([some (.ref 7), some (.ref a1), some (.ref 12), some (.int z307), some (.int k320)], [.ref 12], (0, 0), hp321)) rfl rfl ?_
                                    exact by
                                     refine bs_getU (g := 6) (g1 := 149) rfl rfl Hhp321 (bs_R.uq Hhp321 (g := 6) rfl) (by decide) rfl rfl ?_
                                     refine Ev.step (j := 74) (s' := ([some (.ref 7), some (.ref a1), some (.ref 12), some (.int z307), some (.int k320)], [.int k320, .ref 13], (0, 0), hp321)) rfl rfl ?_
                                     refine Ev.step (j := 75) (s' := ([some (.ref 7), some (.ref a1), some (.ref 12), some (.int z307), some (.int k320)], [.int z307, .int k320, .ref 13], (0, 0), hp321)) rfl rfl ?_
                                     refine Ev.inlS (L := L_X10_slotOf) (nL := 2) rfl rfl (Nat.le_of_ble_eq_true rfl) ?_
                                     generalize hQ394 : (fun (o : ab_O) => Ev _ _ _ _) = Q394
                                     refine (show Ev (ab_T L_X10_slotOf) 0 ([some (.int k320), some (.int z307)], [], (0, 0), hp321) Q394 from ?_)
                                     refine bs_lit (k := 2) rfl rfl fun z395 hz395 => ?_
                                     refine Ev.step (j := 2) (s' := ([some (.int k320), some (.int z307)], [.int k320, .int z395], (0, 0), hp321)) rfl rfl ?_
                                     refine bs_mul (2) rfl (Or.inl hz395) (by rw [hz395]; omega) (by rw [hz395]; omega) fun z396 hz396 => ?_
                                     rw [hz395] at hz396
                                     refine Ev.step (j := 4) (s' := ([some (.int k320), some (.int z307)], [.int z307, .int z396], (0, 0), hp321)) rfl rfl ?_
                                     first | (refine bs_add rfl (by omega) (by omega) fun z397 hz397 => ?_) | (refine bs_any rfl fun z397 => ?_)
                                     have rz397 := n_range z397
                                     refine Ev.ret rfl rfl ?_
                                     rw [← hQ394]
                                     refine (show Ev _ 78 ([some (.ref 7), some (.ref a1), some (.ref 12), some (.int z307), some (.int k320)], [.int z397, .ref 13], (0, 0), hp321) _ from ?_)
                                     exact by
                                      refine Ev.step (j := 79) (s' := ([some (.ref 7), some (.ref a1), some (.ref 12), some (.int z307), some (.int k320)], [.int z397, .ref 13, .int z397, .ref 13], (0, 0), hp321)) rfl rfl ?_
                                      refine bs_ld (g := 149) 0 11 (0, 999) rfl Hhp321 (bs_R.uq Hhp321 (g := 149) rfl) (by decide) rfl (by decide) (by decide) rfl (by decide) (by omega) (by omega) fun z398 hz398 lz398 gz398 => ?_
                                      dsimp only at lz398 gz398
                                      have exv : z398.toInt = xv := Option.some.inj ((bs_at hz398 (show _ = 2 * k320.toInt.toNat + fr by omega)).symm.trans hxv)
                                      refine Ev.step (j := 81) (s' := ([some (.ref 7), some (.ref a1), some (.ref 12), some (.int z307), some (.int k320)], [.ref 7, .int z398, .int z397, .ref 13], (0, 0), hp321)) rfl rfl ?_
                                      refine bs_getU (g := 1) (g1 := 100) rfl rfl Hhp321 (bs_R.uq Hhp321 (g := 1) rfl) (by decide) rfl rfl ?_
                                      refine Ev.step (j := 86) (s' := ([some (.ref 7), some (.ref a1), some (.ref 12), some (.int z307), some (.int k320)], [.int k320, .ref 8, .int z398, .int z397, .ref 13], (0, 0), hp321)) rfl rfl ?_
                                      refine bs_ld (g := 100) 0 5 (-2147483648, 2147483647) rfl Hhp321 (bs_R.uq Hhp321 (g := 100) rfl) (by decide) rfl (by decide) (by decide) rfl (by decide) (by omega) (by omega) fun z399 hz399 lz399 gz399 => ?_
                                      dsimp only at lz399 gz399
                                      have e400 : z399.toInt = fv := Option.some.inj (hz399.symm.trans hfv)
                                      first | (refine bs_sub rfl (by omega) (by omega) fun z401 hz401 => ?_) | (refine bs_any rfl fun z401 => ?_)
                                      have rz401 := n_range z401
                                      refine bs_st (W := [(149, 0, 11)]) (g := 149) 0 11 (0, 999) rfl Hhp321 (bs_R.uq Hhp321 (g := 149) rfl) (by decide) rfl rfl (by decide) rfl rfl (by omega) (by omega) (by dsimp only; omega) (by dsimp only; omega) fun hp402 Hhp402 fhp402 rhp402 ehp402 qhp402 nhp402 => ?_
                                      have Fhp402 := sf_fr_tr Fhp321 (sf_fr_wider (W := [(1, 2, 3), (6, 7, 9), (100, 0, 5), (101, 0, 5), (149, 0, 11), (151, 0, 11), (152, 0, 11), (153, 0, 7), (154, 0, 7), (155, 0, 63)]) rfl fhp402)
                                      have h403 : sf_rd hp402 12 7 = some z12.toInt := (ehp402 _ _ (Or.inl (by decide))).trans i324
                                      have h404 : sf_rd hp402 a1 8 = some z327.toInt := (ehp402 _ _ (Or.inl (bs_nq (ra1.fr Fhp321) (bs_R.uq Hhp321 (g := 149) rfl) (by decide)))).trans hz327
                                      have h405 : sf_rd hp402 8 k320.toInt.toNat = some fv := (ehp402 _ _ (Or.inl (by decide))).trans hfv
                                      refine Ev.step (j := 90) (s' := ([some (.ref 7), some (.ref a1), some (.ref 12), some (.int z307), some (.int k320)], [.ref 12], (0, 0), hp402)) rfl rfl ?_
                                      exact by
                                       refine bs_getU (g := 6) (g1 := 149) rfl rfl Hhp402 (bs_R.uq Hhp402 (g := 6) rfl) (by decide) rfl rfl ?_
                                       refine Ev.step (j := 95) (s' := ([some (.ref 7), some (.ref a1), some (.ref 12), some (.int z307), some (.int k320)], [.int k320, .ref 13], (0, 0), hp402)) rfl rfl ?_
                                       refine bs_lit (k := 1) rfl rfl fun z406 hz406 => ?_
                                       refine Ev.step (j := 97) (s' := ([some (.ref 7), some (.ref a1), some (.ref 12), some (.int z307), some (.int k320)], [.int z307, .int z406, .int k320, .ref 13], (0, 0), hp402)) rfl rfl ?_
                                       first | (refine bs_sub rfl (by omega) (by omega) fun z407 hz407 => ?_) | (refine bs_any rfl fun z407 => ?_)
                                       have rz407 := n_range z407
                                       refine Ev.inlS (L := L_X10_slotOf) (nL := 2) rfl rfl (Nat.le_of_ble_eq_true rfl) ?_
                                       generalize hQ408 : (fun (o : ab_O) => Ev _ _ _ _) = Q408
                                       refine (show Ev (ab_T L_X10_slotOf) 0 ([some (.int k320), some (.int z407)], [], (0, 0), hp402) Q408 from ?_)
                                       exact by
                                        refine bs_lit (k := 2) rfl rfl fun z409 hz409 => ?_
                                        refine Ev.step (j := 2) (s' := ([some (.int k320), some (.int z407)], [.int k320, .int z409], (0, 0), hp402)) rfl rfl ?_
                                        refine bs_mul (2) rfl (Or.inl hz409) (by rw [hz409]; omega) (by rw [hz409]; omega) fun z410 hz410 => ?_
                                        rw [hz409] at hz410
                                        refine Ev.step (j := 4) (s' := ([some (.int k320), some (.int z407)], [.int z407, .int z410], (0, 0), hp402)) rfl rfl ?_
                                        first | (refine bs_add rfl (by omega) (by omega) fun z411 hz411 => ?_) | (refine bs_any rfl fun z411 => ?_)
                                        have rz411 := n_range z411
                                        refine Ev.ret rfl rfl ?_
                                        rw [← hQ408]
                                        refine (show Ev _ 101 ([some (.ref 7), some (.ref a1), some (.ref 12), some (.int z307), some (.int k320)], [.int z411, .ref 13], (0, 0), hp402) _ from ?_)
                                        exact by
                                         refine Ev.step (j := 102) (s' := ([some (.ref 7), some (.ref a1), some (.ref 12), some (.int z307), some (.int k320)], [.int z411, .ref 13, .int z411, .ref 13], (0, 0), hp402)) rfl rfl ?_
                                         refine bs_ld (g := 149) 0 11 (0, 999) rfl Hhp402 (bs_R.uq Hhp402 (g := 149) rfl) (by decide) rfl (by decide) (by decide) rfl (by decide) (by omega) (by omega) fun z412 hz412 lz412 gz412 => ?_
                                         dsimp only at lz412 gz412
                                         have eyv : z412.toInt = yv := Option.some.inj ((bs_at hz412 (show _ = 2 * k320.toInt.toNat + 1 - fr by omega)).symm.trans ((ehp402 _ _ (Or.inr (by omega))).trans hyv))
                                         refine Ev.step (j := 104) (s' := ([some (.ref 7), some (.ref a1), some (.ref 12), some (.int z307), some (.int k320)], [.ref 7, .int z412, .int z411, .ref 13], (0, 0), hp402)) rfl rfl ?_
                                         refine bs_getU (g := 1) (g1 := 100) rfl rfl Hhp402 (bs_R.uq Hhp402 (g := 1) rfl) (by decide) rfl rfl ?_
                                         refine Ev.step (j := 109) (s' := ([some (.ref 7), some (.ref a1), some (.ref 12), some (.int z307), some (.int k320)], [.int k320, .ref 8, .int z412, .int z411, .ref 13], (0, 0), hp402)) rfl rfl ?_
                                         refine bs_ld (g := 100) 0 5 (-2147483648, 2147483647) rfl Hhp402 (bs_R.uq Hhp402 (g := 100) rfl) (by decide) rfl (by decide) (by decide) rfl (by decide) (by omega) (by omega) fun z413 hz413 lz413 gz413 => ?_
                                         dsimp only at lz413 gz413
                                         have e414 : z413.toInt = fv := Option.some.inj (hz413.symm.trans h405)
                                         first | (refine bs_add rfl (by omega) (by omega) fun z415 hz415 => ?_) | (refine bs_any rfl fun z415 => ?_)
                                         have rz415 := n_range z415
                                         refine bs_st (W := [(149, 0, 11)]) (g := 149) 0 11 (0, 999) rfl Hhp402 (bs_R.uq Hhp402 (g := 149) rfl) (by decide) rfl rfl (by decide) rfl rfl (by omega) (by omega) (by dsimp only; omega) (by dsimp only; omega) fun hp416 Hhp416 fhp416 rhp416 ehp416 qhp416 nhp416 => ?_
                                         have Fhp416 := sf_fr_tr Fhp402 (sf_fr_wider (W := [(1, 2, 3), (6, 7, 9), (100, 0, 5), (101, 0, 5), (149, 0, 11), (151, 0, 11), (152, 0, 11), (153, 0, 7), (154, 0, 7), (155, 0, 63)]) rfl fhp416)
                                         have h417 : sf_rd hp416 12 7 = some z12.toInt := (ehp416 _ _ (Or.inl (by decide))).trans h403
                                         have h418 : sf_rd hp416 a1 8 = some z327.toInt := (ehp416 _ _ (Or.inl (bs_nq (ra1.fr Fhp402) (bs_R.uq Hhp402 (g := 149) rfl) (by decide)))).trans h404
                                         have h419 : sf_rd hp416 8 k320.toInt.toNat = some fv := (ehp416 _ _ (Or.inl (by decide))).trans h405
                                         refine Ev.step (j := 113) (s' := ([some (.ref 7), some (.ref a1), some (.ref 12), some (.int z307), some (.int k320)], [.ref 12], (0, 0), hp416)) rfl rfl ?_
                                         exact by
                                          refine bs_getU (g := 6) (g1 := 152) rfl rfl Hhp416 (bs_R.uq Hhp416 (g := 6) rfl) (by decide) rfl rfl ?_
                                          refine Ev.step (j := 118) (s' := ([some (.ref 7), some (.ref a1), some (.ref 12), some (.int z307), some (.int k320)], [.int k320, .ref 16], (0, 0), hp416)) rfl rfl ?_
                                          refine bs_lit (k := 1) rfl rfl fun z420 hz420 => ?_
                                          refine Ev.step (j := 120) (s' := ([some (.ref 7), some (.ref a1), some (.ref 12), some (.int z307), some (.int k320)], [.int z307, .int z420, .int k320, .ref 16], (0, 0), hp416)) rfl rfl ?_
                                          first | (refine bs_sub rfl (by omega) (by omega) fun z421 hz421 => ?_) | (refine bs_any rfl fun z421 => ?_)
                                          have rz421 := n_range z421
                                          refine Ev.inlS (L := L_X10_slotOf) (nL := 2) rfl rfl (Nat.le_of_ble_eq_true rfl) ?_
                                          generalize hQ422 : (fun (o : ab_O) => Ev _ _ _ _) = Q422
                                          refine (show Ev (ab_T L_X10_slotOf) 0 ([some (.int k320), some (.int z421)], [], (0, 0), hp416) Q422 from ?_)
                                          exact by
                                           refine bs_lit (k := 2) rfl rfl fun z423 hz423 => ?_
                                           refine Ev.step (j := 2) (s' := ([some (.int k320), some (.int z421)], [.int k320, .int z423], (0, 0), hp416)) rfl rfl ?_
                                           refine bs_mul (2) rfl (Or.inl hz423) (by rw [hz423]; omega) (by rw [hz423]; omega) fun z424 hz424 => ?_
                                           rw [hz423] at hz424
                                           refine Ev.step (j := 4) (s' := ([some (.int k320), some (.int z421)], [.int z421, .int z424], (0, 0), hp416)) rfl rfl ?_
                                           first | (refine bs_add rfl (by omega) (by omega) fun z425 hz425 => ?_) | (refine bs_any rfl fun z425 => ?_)
                                           have rz425 := n_range z425
                                           refine Ev.ret rfl rfl ?_
                                           rw [← hQ422]
                                           refine (show Ev _ 124 ([some (.ref 7), some (.ref a1), some (.ref 12), some (.int z307), some (.int k320)], [.int z425, .ref 16], (0, 0), hp416) _ from ?_)
                                           exact by
                                            refine Ev.step (j := 125) (s' := ([some (.ref 7), some (.ref a1), some (.ref 12), some (.int z307), some (.int k320)], [.int z425, .ref 16, .int z425, .ref 16], (0, 0), hp416)) rfl rfl ?_
                                            refine bs_ld (g := 152) 0 11 (-2147483648, 2147483647) rfl Hhp416 (bs_R.uq Hhp416 (g := 152) rfl) (by decide) rfl (by decide) (by decide) rfl (by decide) (by omega) (by omega) fun z426 hz426 lz426 gz426 => ?_
                                            dsimp only at lz426 gz426
                                            refine Ev.step (j := 127) (s' := ([some (.ref 7), some (.ref a1), some (.ref 12), some (.int z307), some (.int k320)], [.ref 7, .int z426, .int z425, .ref 16], (0, 0), hp416)) rfl rfl ?_
                                            refine bs_getU (g := 1) (g1 := 100) rfl rfl Hhp416 (bs_R.uq Hhp416 (g := 1) rfl) (by decide) rfl rfl ?_
                                            refine Ev.step (j := 132) (s' := ([some (.ref 7), some (.ref a1), some (.ref 12), some (.int z307), some (.int k320)], [.int k320, .ref 8, .int z426, .int z425, .ref 16], (0, 0), hp416)) rfl rfl ?_
                                            refine bs_ld (g := 100) 0 5 (-2147483648, 2147483647) rfl Hhp416 (bs_R.uq Hhp416 (g := 100) rfl) (by decide) rfl (by decide) (by decide) rfl (by decide) (by omega) (by omega) fun z427 hz427 lz427 gz427 => ?_
                                            dsimp only at lz427 gz427
                                            have e428 : z427.toInt = fv := Option.some.inj (hz427.symm.trans h419)
                                            first | (refine bs_add rfl (by omega) (by omega) fun z429 hz429 => ?_) | (refine bs_any rfl fun z429 => ?_)
                                            have rz429 := n_range z429
                                            refine bs_st (W := [(152, 0, 11)]) (g := 152) 0 11 (-2147483648, 2147483647) rfl Hhp416 (bs_R.uq Hhp416 (g := 152) rfl) (by decide) rfl rfl (by decide) rfl rfl (by omega) (by omega) (by dsimp only; omega) (by dsimp only; omega) fun hp430 Hhp430 fhp430 rhp430 ehp430 qhp430 nhp430 => ?_
                                            have Fhp430 := sf_fr_tr Fhp416 (sf_fr_wider (W := [(1, 2, 3), (6, 7, 9), (100, 0, 5), (101, 0, 5), (149, 0, 11), (151, 0, 11), (152, 0, 11), (153, 0, 7), (154, 0, 7), (155, 0, 63)]) rfl fhp430)
                                            have h431 : sf_rd hp430 12 7 = some z12.toInt := (ehp430 _ _ (Or.inl (by decide))).trans h417
                                            have h432 : sf_rd hp430 a1 8 = some z327.toInt := (ehp430 _ _ (Or.inl (bs_nq (ra1.fr Fhp416) (bs_R.uq Hhp416 (g := 152) rfl) (by decide)))).trans h418
                                            have h433 : sf_rd hp430 8 k320.toInt.toNat = some fv := (ehp430 _ _ (Or.inl (by decide))).trans h419
                                            have h434 : sf_rd hp430 13 z411.toInt.toNat = some z415.toInt := (ehp430 _ _ (Or.inl (by decide))).trans rhp416
                                            refine bs_iinc (1) rfl rfl rfl rfl (by omega) (by omega) fun z435 hz435 => ?_
                                            exact by
                                             refine (show Ev _ 138 ([some (.ref 7), some (.ref a1), some (.ref 12), some (.int z307), some (.int z435)], [], (0, 0), hp430) _ from ?_)
                                             refine Ev.step (j := 59) (s' := ([some (.ref 7), some (.ref a1), some (.ref 12), some (.int z307), some (.int z435)], [], (0, 0), hp430)) rfl rfl ?_
                                             have FR3 : ∀ q : Nat, z435.toInt ≤ (q : Int) → (q : Int) < G → fr_ok hp430 13 fr q := fun q h1 h2 => fr_ok_same (i326 q (by omega) h2) ((ehp430 _ _ (Or.inl (by decide))).trans ((ehp416 _ _ (Or.inl (by decide))).trans (ehp402 _ _ (Or.inl (by decide))))) ((ehp430 _ _ (Or.inl (by decide))).trans ((ehp416 _ _ (Or.inr (by omega))).trans (ehp402 _ _ (Or.inr (by omega))))) ((ehp430 _ _ (Or.inl (by decide))).trans ((ehp416 _ _ (Or.inr (by omega))).trans (ehp402 _ _ (Or.inr (by omega)))))
                                             refine ih323 (z435, hp430, t322) ⟨Hhp430, Fhp430, h431, (by first | omega | assumption), (by first | exact FR3 | exact fun q _ hq => i315 q hq)⟩ ?_
                                             show (6 - z435.toInt).toNat < (6 - k320.toInt).toNat
                                             omega
                               · skip
                                 refine Ev.step (j := 18) (s' := ([some (.ref 7), some (.ref a1), some (.ref 12), some (.int z307), some (.int k309)], [.ref 7], (0, 0), hp310)) rfl rfl ?_
                                 exact by
                                  refine bs_getI 1 rfl rfl rfl Hhp310 (bs_R.uq Hhp310 (g := 1) rfl) (by decide) rfl fun z436 hz436 lz436 gz436 => ?_
                                  refine bs_lit (k := 1) rfl rfl fun z437 hz437 => ?_
                                  refine Ev.step (j := 24) (s' := ([some (.ref 7), some (.ref a1), some (.ref 12), some (.int z307), some (.int k309)], [.int k309, .int z437, .int z436], (0, 0), hp310)) rfl rfl ?_
                                  refine bs_any rfl fun z438 => ?_
                                  have rz438 := n_range z438
                                  refine bs_any rfl fun z439 => ?_
                                  have rz439 := n_range z439
                                  refine bs_ifeq rfl (fun c440 => ?_) (fun c440 => ?_)
                                  · skip
                                    have c441 : z439.toInt = 0 := by omega
                                    refine bs_iinc (1) rfl rfl rfl rfl (by omega) (by omega) fun z442 hz442 => ?_
                                    exact by
                                     refine (show Ev _ 53 ([some (.ref 7), some (.ref a1), some (.ref 12), some (.int z307), some (.int z442)], [], (0, 0), hp310) _ from ?_)
                                     refine Ev.step (j := 8) (s' := ([some (.ref 7), some (.ref a1), some (.ref 12), some (.int z307), some (.int z442)], [], (0, 0), hp310)) rfl rfl ?_
                                     have FR2 : ∀ q : Nat, (q : Int) < G → fr_ok hp310 13 fr q := fun q hq => fr_ok_same (i315 q hq) rfl rfl rfl
                                     refine ih312 (z442, hp310, t311) ⟨Hhp310, Fhp310, i313, (by first | omega | assumption), (by first | exact FR2 | exact FR)⟩ ?_
                                     show (8 - z442.toInt).toNat < (8 - k309.toInt).toNat
                                     omega
                                  · skip
                                    refine Ev.step (j := 30) (s' := ([some (.ref 7), some (.ref a1), some (.ref 12), some (.int z307), some (.int k309)], [.ref 12], (0, 0), hp310)) rfl rfl ?_
                                    exact by
                                     refine bs_getU (g := 6) (g1 := 153) rfl rfl Hhp310 (bs_R.uq Hhp310 (g := 6) rfl) (by decide) rfl rfl ?_
                                     refine Ev.step (j := 35) (s' := ([some (.ref 7), some (.ref a1), some (.ref 12), some (.int z307), some (.int k309)], [.int k309, .ref 17], (0, 0), hp310)) rfl rfl ?_
                                     refine bs_lit (k := 1) rfl rfl fun z443 hz443 => ?_
                                     refine Ev.step (j := 37) (s' := ([some (.ref 7), some (.ref a1), some (.ref 12), some (.int z307), some (.int k309)], [.int z307, .int z443, .int k309, .ref 17], (0, 0), hp310)) rfl rfl ?_
                                     first | (refine bs_sub rfl (by omega) (by omega) fun z444 hz444 => ?_) | (refine bs_any rfl fun z444 => ?_)
                                     have rz444 := n_range z444
                                     refine bs_st (W := [(153, 0, 7)]) (g := 153) 0 7 (-2147483648, 2147483647) rfl Hhp310 (bs_R.uq Hhp310 (g := 153) rfl) (by decide) rfl rfl (by decide) rfl rfl (by omega) (by omega) (by dsimp only; omega) (by dsimp only; omega) fun hp445 Hhp445 fhp445 rhp445 ehp445 qhp445 nhp445 => ?_
                                     have Fhp445 := sf_fr_tr Fhp310 (sf_fr_wider (W := [(1, 2, 3), (6, 7, 9), (100, 0, 5), (101, 0, 5), (149, 0, 11), (151, 0, 11), (152, 0, 11), (153, 0, 7), (154, 0, 7), (155, 0, 63)]) rfl fhp445)
                                     have h446 : sf_rd hp445 12 7 = some z12.toInt := (ehp445 _ _ (Or.inl (by decide))).trans i313
                                     have h447 : sf_rd hp445 a1 9 = some z316.toInt := (ehp445 _ _ (Or.inl (bs_nq (ra1.fr Fhp310) (bs_R.uq Hhp310 (g := 153) rfl) (by decide)))).trans hz316
                                     have h448 : sf_rd hp445 7 2 = some z436.toInt := (ehp445 _ _ (Or.inl (by decide))).trans hz436
                                     refine Ev.step (j := 40) (s' := ([some (.ref 7), some (.ref a1), some (.ref 12), some (.int z307), some (.int k309)], [.ref 12], (0, 0), hp445)) rfl rfl ?_
                                     exact by
                                      refine bs_getU (g := 6) (g1 := 154) rfl rfl Hhp445 (bs_R.uq Hhp445 (g := 6) rfl) (by decide) rfl rfl ?_
                                      refine Ev.step (j := 45) (s' := ([some (.ref 7), some (.ref a1), some (.ref 12), some (.int z307), some (.int k309)], [.int k309, .ref 18], (0, 0), hp445)) rfl rfl ?_
                                      refine Ev.step (j := 46) (s' := ([some (.ref 7), some (.ref a1), some (.ref 12), some (.int z307), some (.int k309)], [.int k309, .ref 18, .int k309, .ref 18], (0, 0), hp445)) rfl rfl ?_
                                      refine bs_ld (g := 154) 0 7 (-2147483648, 2147483647) rfl Hhp445 (bs_R.uq Hhp445 (g := 154) rfl) (by decide) rfl (by decide) (by decide) rfl (by decide) (by omega) (by omega) fun z449 hz449 lz449 gz449 => ?_
                                      dsimp only at lz449 gz449
                                      refine bs_lit (k := 1) rfl rfl fun z450 hz450 => ?_
                                      first | (refine bs_add rfl (by omega) (by omega) fun z451 hz451 => ?_) | (refine bs_any rfl fun z451 => ?_)
                                      have rz451 := n_range z451
                                      refine bs_st (W := [(154, 0, 7)]) (g := 154) 0 7 (-2147483648, 2147483647) rfl Hhp445 (bs_R.uq Hhp445 (g := 154) rfl) (by decide) rfl rfl (by decide) rfl rfl (by omega) (by omega) (by dsimp only; omega) (by dsimp only; omega) fun hp452 Hhp452 fhp452 rhp452 ehp452 qhp452 nhp452 => ?_
                                      have Fhp452 := sf_fr_tr Fhp445 (sf_fr_wider (W := [(1, 2, 3), (6, 7, 9), (100, 0, 5), (101, 0, 5), (149, 0, 11), (151, 0, 11), (152, 0, 11), (153, 0, 7), (154, 0, 7), (155, 0, 63)]) rfl fhp452)
                                      have h453 : sf_rd hp452 12 7 = some z12.toInt := (ehp452 _ _ (Or.inl (by decide))).trans h446
                                      have h454 : sf_rd hp452 a1 9 = some z316.toInt := (ehp452 _ _ (Or.inl (bs_nq (ra1.fr Fhp445) (bs_R.uq Hhp445 (g := 154) rfl) (by decide)))).trans h447
                                      have h455 : sf_rd hp452 7 2 = some z436.toInt := (ehp452 _ _ (Or.inl (by decide))).trans h448
                                      have h456 : sf_rd hp452 17 k309.toInt.toNat = some z444.toInt := (ehp452 _ _ (Or.inl (by decide))).trans rhp445
                                      refine bs_iinc (1) rfl rfl rfl rfl (by omega) (by omega) fun z457 hz457 => ?_
                                      exact by
                                       refine (show Ev _ 53 ([some (.ref 7), some (.ref a1), some (.ref 12), some (.int z307), some (.int z457)], [], (0, 0), hp452) _ from ?_)
                                       refine Ev.step (j := 8) (s' := ([some (.ref 7), some (.ref a1), some (.ref 12), some (.int z307), some (.int z457)], [], (0, 0), hp452)) rfl rfl ?_
                                       have FR2 : ∀ q : Nat, (q : Int) < G → fr_ok hp452 13 fr q := fun q hq => fr_ok_same (i315 q hq) ((ehp452 _ _ (Or.inl (by decide))).trans (ehp445 _ _ (Or.inl (by decide)))) ((ehp452 _ _ (Or.inl (by decide))).trans (ehp445 _ _ (Or.inl (by decide)))) ((ehp452 _ _ (Or.inl (by decide))).trans (ehp445 _ _ (Or.inl (by decide))))
                                       refine ih312 (z457, hp452, t311) ⟨Hhp452, Fhp452, h453, (by first | omega | assumption), (by first | exact FR2 | exact FR)⟩ ?_
                                       show (8 - z457.toInt).toNat < (8 - k309.toInt).toNat
                                       omega
                          · skip
                            refine Ev.step (j := 128) (s' := ([some (.ref 7), some (.ref a1), some (.ref 12), some (.int z23), some (.int z28), some (.int z40), some (.int k291), o294], [.ref 12], (0, 0), hp292)) rfl rfl ?_
                            exact by
                             refine Ev.step (j := 129) (s' := ([some (.ref 7), some (.ref a1), some (.ref 12), some (.int z23), some (.int z28), some (.int z40), some (.int k291), o294], [.ref a1, .ref 12], (0, 0), hp292)) rfl rfl ?_
                             refine Ev.step (j := 131) (s' := ([some (.ref 7), some (.ref a1), some (.ref 12), some (.int z23), some (.int z28), some (.int z40), some (.int k291), o294], [.int k291, .ref a1, .ref 12], (0, 0), hp292)) rfl rfl ?_
                             refine bs_lit (k := 1) rfl rfl fun z458 hz458 => ?_
                             refine Ev.step (j := 133) (s' := ([some (.ref 7), some (.ref a1), some (.ref 12), some (.int z23), some (.int z28), some (.int z40), some (.int k291), o294], [.int z23, .int z458, .int k291, .ref a1, .ref 12], (0, 0), hp292)) rfl rfl ?_
                             first | (refine bs_sub rfl (by omega) (by omega) fun z459 hz459 => ?_) | (refine bs_any rfl fun z459 => ?_)
                             have rz459 := n_range z459
                             refine Ev.inlS (L := L_X10_slotOf) (nL := 2) rfl rfl (Nat.le_of_ble_eq_true rfl) ?_
                             generalize hQ460 : (fun (o : ab_O) => Ev _ _ _ _) = Q460
                             refine (show Ev (ab_T L_X10_slotOf) 0 ([some (.int k291), some (.int z459)], [], (0, 0), hp292) Q460 from ?_)
                             exact by
                              refine bs_lit (k := 2) rfl rfl fun z461 hz461 => ?_
                              refine Ev.step (j := 2) (s' := ([some (.int k291), some (.int z459)], [.int k291, .int z461], (0, 0), hp292)) rfl rfl ?_
                              refine bs_mul (2) rfl (Or.inl hz461) (by rw [hz461]; omega) (by rw [hz461]; omega) fun z462 hz462 => ?_
                              rw [hz461] at hz462
                              refine Ev.step (j := 4) (s' := ([some (.int k291), some (.int z459)], [.int z459, .int z462], (0, 0), hp292)) rfl rfl ?_
                              first | (refine bs_add rfl (by omega) (by omega) fun z463 hz463 => ?_) | (refine bs_any rfl fun z463 => ?_)
                              have rz463 := n_range z463
                              refine Ev.ret rfl rfl ?_
                              rw [← hQ460]
                              refine (show Ev _ 137 ([some (.ref 7), some (.ref a1), some (.ref 12), some (.int z23), some (.int z28), some (.int z40), some (.int k291), o294], [.int z463, .ref a1, .ref 12], (0, 0), hp292) _ from ?_)
                              exact by
                               refine Ev.inl (L := (L_X6_lackAt Z_X7_amountOf)) (nL := 3) rfl (bs_rcv (g := 6) Hhp292 (bs_R.uq Hhp292 (g := 6) rfl) (by decide) rfl) rfl (Nat.le_of_ble_eq_true rfl) ?_
                               generalize hQ464 : (fun (o : ab_O) => Ev _ _ _ _) = Q464
                               refine (show Ev (ab_T (L_X6_lackAt Z_X7_amountOf)) 0 ([some (.ref 12), some (.ref a1), some (.int z463)], [], (0, 0), hp292) Q464 from ?_)
                               refine bs_lit (k := 0) rfl rfl fun z465 hz465 => ?_
                               refine Ev.step (j := 2) (s' := ([some (.ref 12), some (.ref a1), some (.int z463)], [.ref a1, .int z465], (0, 0), hp292)) rfl rfl ?_
                               refine bs_lit (k := 1) rfl rfl fun z466 hz466 => ?_
                               refine Ev.step (j := 4) (s' := ([some (.ref 12), some (.ref a1), some (.int z463)], [.int z463, .int z466, .ref a1, .int z465], (0, 0), hp292)) rfl rfl ?_
                               refine Ev.inl (L := L_X7_amountOf) (nL := 3) rfl (bs_rcv (g := 7) Hhp292 (ra1.fr Fhp292) (by decide) rfl) rfl (Nat.le_of_ble_eq_true rfl) ?_
                               generalize hQ467 : (fun (o : ab_O) => Ev _ _ _ _) = Q467
                               refine (show Ev (ab_T L_X7_amountOf) 0 ([some (.ref a1), some (.int z466), some (.int z463)], [], (0, 0), hp292) Q467 from ?_)
                               exact by
                                refine Ev.step (j := 1) (s' := ([some (.ref a1), some (.int z466), some (.int z463)], [.ref a1], (0, 0), hp292)) rfl rfl ?_
                                refine bs_getR (g := 7) (g1 := 119) rfl rfl Hhp292 (ra1.fr Fhp292) (by decide) rfl fun b468 qb468 rb468 => ?_
                                refine Ev.step (j := 5) (s' := ([some (.ref a1), some (.int z466), some (.int z463)], [.int z466, .ref b468], (0, 0), hp292)) rfl rfl ?_
                                refine bs_lit (k := 12) rfl rfl fun z469 hz469 => ?_
                                refine bs_mul (12) rfl (Or.inr hz469) (by rw [hz469]; omega) (by rw [hz469]; omega) fun z470 hz470 => ?_
                                rw [hz469] at hz470
                                refine Ev.step (j := 9) (s' := ([some (.ref a1), some (.int z466), some (.int z463)], [.int z463, .int z470, .ref b468], (0, 0), hp292)) rfl rfl ?_
                                first | (refine bs_add rfl (by omega) (by omega) fun z471 hz471 => ?_) | (refine bs_any rfl fun z471 => ?_)
                                have rz471 := n_range z471
                                refine bs_ld (g := 119) 12 23 (0, 250) rfl Hhp292 rb468 (by decide) rfl (by decide) (by decide) rfl (by decide) (by omega) (by omega) fun z472 hz472 lz472 gz472 => ?_
                                dsimp only at lz472 gz472
                                refine Ev.ret rfl rfl ?_
                                rw [← hQ467]
                                refine (show Ev _ 7 ([some (.ref 12), some (.ref a1), some (.int z463)], [.int z472, .int z465], (0, 0), hp292) _ from ?_)
                                exact by
                                 refine Ev.step (j := 8) (s' := ([some (.ref 12), some (.ref a1), some (.int z463)], [.ref 12, .int z472, .int z465], (0, 0), hp292)) rfl rfl ?_
                                 refine bs_getU (g := 6) (g1 := 149) rfl rfl Hhp292 (bs_R.uq Hhp292 (g := 6) rfl) (by decide) rfl rfl ?_
                                 refine Ev.step (j := 12) (s' := ([some (.ref 12), some (.ref a1), some (.int z463)], [.int z463, .ref 13, .int z472, .int z465], (0, 0), hp292)) rfl rfl ?_
                                 refine bs_ld (g := 149) 0 11 (0, 999) rfl Hhp292 (bs_R.uq Hhp292 (g := 149) rfl) (by decide) rfl (by decide) (by decide) rfl (by decide) (by omega) (by omega) fun z473 hz473 lz473 gz473 => ?_
                                 dsimp only at lz473 gz473
                                 first | (refine bs_sub rfl (by omega) (by omega) fun z474 hz474 => ?_) | (refine bs_any rfl fun z474 => ?_)
                                 have rz474 := n_range z474
                                 refine bs_max rfl rfl fun z475 hz475 => ?_
                                 refine Ev.ret rfl rfl ?_
                                 rw [← hQ464]
                                 refine (show Ev _ 140 ([some (.ref 7), some (.ref a1), some (.ref 12), some (.int z23), some (.int z28), some (.int z40), some (.int k291), o294], [.int z475], (0, 0), hp292) _ from ?_)
                                 exact by
                                  refine Ev.step (j := 142) (s' := ([some (.ref 7), some (.ref a1), some (.ref 12), some (.int z23), some (.int z28), some (.int z40), some (.int k291), some (.int z475)], [], (0, 0), hp292)) rfl rfl ?_
                                  refine Ev.step (j := 143) (s' := ([some (.ref 7), some (.ref a1), some (.ref 12), some (.int z23), some (.int z28), some (.int z40), some (.int k291), some (.int z475)], [.ref 7], (0, 0), hp292)) rfl rfl ?_
                                  refine bs_getU (g := 1) (g1 := 101) rfl rfl Hhp292 (bs_R.uq Hhp292 (g := 1) rfl) (by decide) rfl rfl ?_
                                  refine Ev.step (j := 148) (s' := ([some (.ref 7), some (.ref a1), some (.ref 12), some (.int z23), some (.int z28), some (.int z40), some (.int k291), some (.int z475)], [.int k291, .ref 9], (0, 0), hp292)) rfl rfl ?_
                                  refine Ev.step (j := 150) (s' := ([some (.ref 7), some (.ref a1), some (.ref 12), some (.int z23), some (.int z28), some (.int z40), some (.int k291), some (.int z475)], [.int z28, .int k291, .ref 9], (0, 0), hp292)) rfl rfl ?_
                                  refine Ev.step (j := 151) (s' := ([some (.ref 7), some (.ref a1), some (.ref 12), some (.int z23), some (.int z28), some (.int z40), some (.int k291), some (.int z475)], [.ref 7, .int z28, .int k291, .ref 9], (0, 0), hp292)) rfl rfl ?_
                                  refine bs_getI 1 rfl rfl rfl Hhp292 (bs_R.uq Hhp292 (g := 1) rfl) (by decide) rfl fun z476 hz476 lz476 gz476 => ?_
                                  first | (refine bs_sub rfl (by omega) (by omega) fun z477 hz477 => ?_) | (refine bs_any rfl fun z477 => ?_)
                                  have rz477 := n_range z477
                                  refine bs_st (W := [(101, 0, 5)]) (g := 101) 0 5 (-2147483648, 2147483647) rfl Hhp292 (bs_R.uq Hhp292 (g := 101) rfl) (by decide) rfl rfl (by decide) rfl rfl (by omega) (by omega) (by dsimp only; omega) (by dsimp only; omega) fun hp478 Hhp478 fhp478 rhp478 ehp478 qhp478 nhp478 => ?_
                                  have Fhp478 := sf_fr_tr Fhp292 (sf_fr_wider (W := [(1, 2, 3), (6, 7, 9), (100, 0, 5), (101, 0, 5), (149, 0, 11), (151, 0, 11), (152, 0, 11), (153, 0, 7), (154, 0, 7), (155, 0, 63)]) rfl fhp478)
                                  have h479 : sf_rd hp478 12 7 = some z12.toInt := (ehp478 _ _ (Or.inl (by decide))).trans i296
                                  have h480 : sf_rd hp478 a1 8 = some z299.toInt := (ehp478 _ _ (Or.inl (bs_nq (ra1.fr Fhp292) (bs_R.uq Hhp292 (g := 101) rfl) (by decide)))).trans hz299
                                  have h481 : sf_rd hp478 b468 z471.toInt.toNat = some z472.toInt := (ehp478 _ _ (Or.inl (bs_nq rb468 (bs_R.uq Hhp292 (g := 101) rfl) (by decide)))).trans hz472
                                  have h482 : sf_rd hp478 13 z463.toInt.toNat = some z473.toInt := (ehp478 _ _ (Or.inl (by decide))).trans hz473
                                  have h483 : sf_rd hp478 7 3 = some z476.toInt := (ehp478 _ _ (Or.inl (by decide))).trans hz476
                                  have r484 := rb468.fr fhp478
                                  refine Ev.step (j := 157) (s' := ([some (.ref 7), some (.ref a1), some (.ref 12), some (.int z23), some (.int z28), some (.int z40), some (.int k291), some (.int z475)], [.ref 7], (0, 0), hp478)) rfl rfl ?_
                                  exact by
                                   refine bs_getU (g := 1) (g1 := 100) rfl rfl Hhp478 (bs_R.uq Hhp478 (g := 1) rfl) (by decide) rfl rfl ?_
                                   refine Ev.step (j := 162) (s' := ([some (.ref 7), some (.ref a1), some (.ref 12), some (.int z23), some (.int z28), some (.int z40), some (.int k291), some (.int z475)], [.int k291, .ref 8], (0, 0), hp478)) rfl rfl ?_
                                   refine Ev.step (j := 163) (s' := ([some (.ref 7), some (.ref a1), some (.ref 12), some (.int z23), some (.int z28), some (.int z40), some (.int k291), some (.int z475)], [.ref 12, .int k291, .ref 8], (0, 0), hp478)) rfl rfl ?_
                                   refine bs_getU (g := 6) (g1 := 149) rfl rfl Hhp478 (bs_R.uq Hhp478 (g := 6) rfl) (by decide) rfl rfl ?_
                                   refine Ev.step (j := 168) (s' := ([some (.ref 7), some (.ref a1), some (.ref 12), some (.int z23), some (.int z28), some (.int z40), some (.int k291), some (.int z475)], [.int k291, .ref 13, .int k291, .ref 8], (0, 0), hp478)) rfl rfl ?_
                                   refine Ev.step (j := 169) (s' := ([some (.ref 7), some (.ref a1), some (.ref 12), some (.int z23), some (.int z28), some (.int z40), some (.int k291), some (.int z475)], [.int z23, .int k291, .ref 13, .int k291, .ref 8], (0, 0), hp478)) rfl rfl ?_
                                   refine Ev.inlS (L := L_X10_slotOf) (nL := 2) rfl rfl (Nat.le_of_ble_eq_true rfl) ?_
                                   generalize hQ485 : (fun (o : ab_O) => Ev _ _ _ _) = Q485
                                   refine (show Ev (ab_T L_X10_slotOf) 0 ([some (.int k291), some (.int z23)], [], (0, 0), hp478) Q485 from ?_)
                                   exact by
                                    refine bs_lit (k := 2) rfl rfl fun z486 hz486 => ?_
                                    refine Ev.step (j := 2) (s' := ([some (.int k291), some (.int z23)], [.int k291, .int z486], (0, 0), hp478)) rfl rfl ?_
                                    refine bs_mul (2) rfl (Or.inl hz486) (by rw [hz486]; omega) (by rw [hz486]; omega) fun z487 hz487 => ?_
                                    rw [hz486] at hz487
                                    refine Ev.step (j := 4) (s' := ([some (.int k291), some (.int z23)], [.int z23, .int z487], (0, 0), hp478)) rfl rfl ?_
                                    first | (refine bs_add rfl (by omega) (by omega) fun z488 hz488 => ?_) | (refine bs_any rfl fun z488 => ?_)
                                    have rz488 := n_range z488
                                    refine Ev.ret rfl rfl ?_
                                    rw [← hQ485]
                                    refine (show Ev _ 172 ([some (.ref 7), some (.ref a1), some (.ref 12), some (.int z23), some (.int z28), some (.int z40), some (.int k291), some (.int z475)], [.int z488, .ref 13, .int k291, .ref 8], (0, 0), hp478) _ from ?_)
                                    exact by
                                     refine bs_ld (g := 149) 0 11 (0, 999) rfl Hhp478 (bs_R.uq Hhp478 (g := 149) rfl) (by decide) rfl (by decide) (by decide) rfl (by decide) (by omega) (by omega) fun z489 hz489 lz489 gz489 => ?_
                                     dsimp only at lz489 gz489
                                     refine Ev.step (j := 175) (s' := ([some (.ref 7), some (.ref a1), some (.ref 12), some (.int z23), some (.int z28), some (.int z40), some (.int k291), some (.int z475)], [.int z475, .int z489, .int k291, .ref 8], (0, 0), hp478)) rfl rfl ?_
                                     refine Ev.step (j := 176) (s' := ([some (.ref 7), some (.ref a1), some (.ref 12), some (.int z23), some (.int z28), some (.int z40), some (.int k291), some (.int z475)], [.ref 7, .int z475, .int z489, .int k291, .ref 8], (0, 0), hp478)) rfl rfl ?_
                                     refine bs_getU (g := 1) (g1 := 101) rfl rfl Hhp478 (bs_R.uq Hhp478 (g := 1) rfl) (by decide) rfl rfl ?_
                                     refine Ev.step (j := 181) (s' := ([some (.ref 7), some (.ref a1), some (.ref 12), some (.int z23), some (.int z28), some (.int z40), some (.int k291), some (.int z475)], [.int k291, .ref 9, .int z475, .int z489, .int k291, .ref 8], (0, 0), hp478)) rfl rfl ?_
                                     refine bs_ld (g := 101) 0 5 (-2147483648, 2147483647) rfl Hhp478 (bs_R.uq Hhp478 (g := 101) rfl) (by decide) rfl (by decide) (by decide) rfl (by decide) (by omega) (by omega) fun z490 hz490 lz490 gz490 => ?_
                                     dsimp only at lz490 gz490
                                     have e491 : z490.toInt = z477.toInt := Option.some.inj (hz490.symm.trans rhp478)
                                     refine Ev.inlS (L := L_X1_amountMoved) (nL := 3) rfl rfl (Nat.le_of_ble_eq_true rfl) ?_
                                     generalize hQ492 : (fun (o : ab_O) => Ev _ _ _ _) = Q492
                                     refine (show Ev (ab_T L_X1_amountMoved) 0 ([some (.int z489), some (.int z475), some (.int z490)], [], (0, 0), hp478) Q492 from ?_)
                                     exact by
                                      refine bs_lit (k := 0) rfl rfl fun z493 hz493 => ?_
                                      refine Ev.step (j := 2) (s' := ([some (.int z489), some (.int z475), some (.int z490)], [.int z489, .int z493], (0, 0), hp478)) rfl rfl ?_
                                      refine Ev.step (j := 3) (s' := ([some (.int z489), some (.int z475), some (.int z490)], [.int z475, .int z489, .int z493], (0, 0), hp478)) rfl rfl ?_
                                      refine Ev.step (j := 4) (s' := ([some (.int z489), some (.int z475), some (.int z490)], [.int z490, .int z475, .int z489, .int z493], (0, 0), hp478)) rfl rfl ?_
                                      refine bs_min rfl rfl fun z494 hz494 => ?_
                                      refine bs_min rfl rfl fun z495 hz495 => ?_
                                      refine bs_max rfl rfl fun z496 hz496 => ?_
                                      refine Ev.ret rfl rfl ?_
                                      rw [← hQ492]
                                      refine (show Ev _ 185 ([some (.ref 7), some (.ref a1), some (.ref 12), some (.int z23), some (.int z28), some (.int z40), some (.int k291), some (.int z475)], [.int z496, .int k291, .ref 8], (0, 0), hp478) _ from ?_)
                                      exact by
                                       refine bs_st (W := [(100, 0, 5)]) (g := 100) 0 5 (-2147483648, 2147483647) rfl Hhp478 (bs_R.uq Hhp478 (g := 100) rfl) (by decide) rfl rfl (by decide) rfl rfl (by omega) (by omega) (by dsimp only; omega) (by dsimp only; omega) fun hp497 Hhp497 fhp497 rhp497 ehp497 qhp497 nhp497 => ?_
                                       have Fhp497 := sf_fr_tr Fhp478 (sf_fr_wider (W := [(1, 2, 3), (6, 7, 9), (100, 0, 5), (101, 0, 5), (149, 0, 11), (151, 0, 11), (152, 0, 11), (153, 0, 7), (154, 0, 7), (155, 0, 63)]) rfl fhp497)
                                       have h498 : sf_rd hp497 12 7 = some z12.toInt := (ehp497 _ _ (Or.inl (by decide))).trans h479
                                       have h499 : sf_rd hp497 a1 8 = some z299.toInt := (ehp497 _ _ (Or.inl (bs_nq (ra1.fr Fhp478) (bs_R.uq Hhp478 (g := 100) rfl) (by decide)))).trans h480
                                       have h500 : sf_rd hp497 b468 z471.toInt.toNat = some z472.toInt := (ehp497 _ _ (Or.inl (bs_nq r484 (bs_R.uq Hhp478 (g := 100) rfl) (by decide)))).trans h481
                                       have h501 : sf_rd hp497 13 z463.toInt.toNat = some z473.toInt := (ehp497 _ _ (Or.inl (by decide))).trans h482
                                       have h502 : sf_rd hp497 7 3 = some z476.toInt := (ehp497 _ _ (Or.inl (by decide))).trans h483
                                       have h503 : sf_rd hp497 9 k291.toInt.toNat = some z477.toInt := (ehp497 _ _ (Or.inl (by decide))).trans rhp478
                                       have h504 : sf_rd hp497 13 z488.toInt.toNat = some z489.toInt := (ehp497 _ _ (Or.inl (by decide))).trans hz489
                                       have r505 := r484.fr fhp497
                                       refine Ev.step (j := 187) (s' := ([some (.ref 7), some (.ref a1), some (.ref 12), some (.int z23), some (.int z28), some (.int z40), some (.int k291), some (.int z475)], [.ref 7], (0, 0), hp497)) rfl rfl ?_
                                       exact by
                                        refine Ev.step (j := 188) (s' := ([some (.ref 7), some (.ref a1), some (.ref 12), some (.int z23), some (.int z28), some (.int z40), some (.int k291), some (.int z475)], [.ref 7, .ref 7], (0, 0), hp497)) rfl rfl ?_
                                        refine bs_getI 1 rfl rfl rfl Hhp497 (bs_R.uq Hhp497 (g := 1) rfl) (by decide) rfl fun z506 hz506 lz506 gz506 => ?_
                                        have e507 : z506.toInt = z476.toInt := Option.some.inj (hz506.symm.trans h502)
                                        refine Ev.step (j := 192) (s' := ([some (.ref 7), some (.ref a1), some (.ref 12), some (.int z23), some (.int z28), some (.int z40), some (.int k291), some (.int z475)], [.ref 7, .int z506, .ref 7], (0, 0), hp497)) rfl rfl ?_
                                        refine bs_getU (g := 1) (g1 := 100) rfl rfl Hhp497 (bs_R.uq Hhp497 (g := 1) rfl) (by decide) rfl rfl ?_
                                        refine Ev.step (j := 197) (s' := ([some (.ref 7), some (.ref a1), some (.ref 12), some (.int z23), some (.int z28), some (.int z40), some (.int k291), some (.int z475)], [.int k291, .ref 8, .int z506, .ref 7], (0, 0), hp497)) rfl rfl ?_
                                        refine bs_ld (g := 100) 0 5 (-2147483648, 2147483647) rfl Hhp497 (bs_R.uq Hhp497 (g := 100) rfl) (by decide) rfl (by decide) (by decide) rfl (by decide) (by omega) (by omega) fun z508 hz508 lz508 gz508 => ?_
                                        dsimp only at lz508 gz508
                                        have e509 : z508.toInt = z496.toInt := Option.some.inj (hz508.symm.trans rhp497)
                                        first | (refine bs_add rfl (by omega) (by omega) fun z510 hz510 => ?_) | (refine bs_any rfl fun z510 => ?_)
                                        have rz510 := n_range z510
                                        refine bs_putI (W := [(1, 3, 3)]) (g := 1) rfl rfl Hhp497 (bs_R.uq Hhp497 (g := 1) rfl) (by decide) rfl rfl rfl rfl (Or.inl rfl) (by omega) (by omega) fun hp511 Hhp511 fhp511 rhp511 ehp511 qhp511 nhp511 => ?_
                                        have Fhp511 := sf_fr_tr Fhp497 (sf_fr_wider (W := [(1, 2, 3), (6, 7, 9), (100, 0, 5), (101, 0, 5), (149, 0, 11), (151, 0, 11), (152, 0, 11), (153, 0, 7), (154, 0, 7), (155, 0, 63)]) rfl fhp511)
                                        have h512 : sf_rd hp511 12 7 = some z12.toInt := (ehp511 _ _ (Or.inl (by decide))).trans h498
                                        have h513 : sf_rd hp511 a1 8 = some z299.toInt := (ehp511 _ _ (Or.inl (bs_nq (ra1.fr Fhp497) (bs_R.uq Hhp497 (g := 1) rfl) (by decide)))).trans h499
                                        have h514 : sf_rd hp511 b468 z471.toInt.toNat = some z472.toInt := (ehp511 _ _ (Or.inl (bs_nq r505 (bs_R.uq Hhp497 (g := 1) rfl) (by decide)))).trans h500
                                        have h515 : sf_rd hp511 13 z463.toInt.toNat = some z473.toInt := (ehp511 _ _ (Or.inl (by decide))).trans h501
                                        have h516 : sf_rd hp511 9 k291.toInt.toNat = some z477.toInt := (ehp511 _ _ (Or.inl (by decide))).trans h503
                                        have h517 : sf_rd hp511 13 z488.toInt.toNat = some z489.toInt := (ehp511 _ _ (Or.inl (by decide))).trans h504
                                        have h518 : sf_rd hp511 8 k291.toInt.toNat = some z496.toInt := (ehp511 _ _ (Or.inl (by decide))).trans rhp497
                                        have r519 := r505.fr fhp511
                                        refine bs_iinc (1) rfl rfl rfl rfl (by omega) (by omega) fun z520 hz520 => ?_
                                        exact by
                                         refine (show Ev _ 205 ([some (.ref 7), some (.ref a1), some (.ref 12), some (.int z23), some (.int z28), some (.int z40), some (.int z520), some (.int z475)], [], (0, 0), hp511) _ from ?_)
                                         refine Ev.step (j := 118) (s' := ([some (.ref 7), some (.ref a1), some (.ref 12), some (.int z23), some (.int z28), some (.int z40), some (.int z520), some (.int z475)], [], (0, 0), hp511)) rfl rfl ?_
                                         have FQ : ∀ q : Nat, (q : Int) < z520.toInt → fr_ok hp511 13 fr q := by
                                           intro q hq
                                           by_cases hqk : (q : Int) < k291.toInt
                                           · exact fr_ok_same (i298 q hqk) ((ehp511 _ _ (Or.inl (by decide))).trans ((ehp497 _ _ (Or.inr (by omega))).trans (ehp478 _ _ (Or.inl (by decide))))) ((ehp511 _ _ (Or.inl (by decide))).trans ((ehp497 _ _ (Or.inl (by decide))).trans (ehp478 _ _ (Or.inl (by decide))))) ((ehp511 _ _ (Or.inl (by decide))).trans ((ehp497 _ _ (Or.inl (by decide))).trans (ehp478 _ _ (Or.inl (by decide)))))
                                           · have eq : q = k291.toInt.toNat := by omega
                                             subst eq
                                             exact ⟨z496.toInt, z489.toInt, z473.toInt, h518, ((ehp511 _ _ (Or.inl (by decide))).trans (ehp497 _ _ (Or.inl (by decide)))).trans (bs_at hz489 (by omega)), ((ehp511 _ _ (Or.inl (by decide))).trans ((ehp497 _ _ (Or.inl (by decide))).trans (ehp478 _ _ (Or.inl (by decide))))).trans (bs_at hz473 (by omega)), by omega, by omega, by omega⟩
                                         refine ih295 (z520, (some (.int z475)), hp511, t293) ⟨Hhp511, Fhp511, h512, (by first | omega | assumption), (by first | exact FQ | exact fun q hq => absurd hq (by omega))⟩ ?_
                                         show (6 - z520.toInt).toNat < (6 - k291.toInt).toNat
                                         omega
                       · skip
                         refine Ev.step (j := 66) (s' := ([some (.ref 7), some (.ref a1), some (.ref 12), some (.int z23), some (.int z28), some (.int z40), some (.int k46), none], [.ref 12], (0, 0), hp47)) rfl rfl ?_
                         exact by
                          refine bs_getU (g := 6) (g1 := 153) rfl rfl Hhp47 (bs_R.uq Hhp47 (g := 6) rfl) (by decide) rfl rfl ?_
                          refine Ev.step (j := 71) (s' := ([some (.ref 7), some (.ref a1), some (.ref 12), some (.int z23), some (.int z28), some (.int z40), some (.int k46), none], [.int k46, .ref 17], (0, 0), hp47)) rfl rfl ?_
                          refine bs_ld (g := 153) 0 7 (-2147483648, 2147483647) rfl Hhp47 (bs_R.uq Hhp47 (g := 153) rfl) (by decide) rfl (by decide) (by decide) rfl (by decide) (by omega) (by omega) fun z521 hz521 lz521 gz521 => ?_
                          dsimp only at lz521 gz521
                          refine Ev.step (j := 73) (s' := ([some (.ref 7), some (.ref a1), some (.ref 12), some (.int z23), some (.int z28), some (.int z40), some (.int k46), none], [.int z23, .int z521], (0, 0), hp47)) rfl rfl ?_
                          refine bs_ne rfl (fun c522 => ?_) (fun c522 => ?_)
                          · skip
                            refine bs_iinc (1) rfl rfl rfl rfl (by omega) (by omega) fun z523 hz523 => ?_
                            refine (show Ev _ 112 ([some (.ref 7), some (.ref a1), some (.ref 12), some (.int z23), some (.int z28), some (.int z40), some (.int z523), none], [], (0, 0), hp47) _ from ?_)
                            refine Ev.step (j := 45) (s' := ([some (.ref 7), some (.ref a1), some (.ref 12), some (.int z23), some (.int z28), some (.int z40), some (.int z523), none], [], (0, 0), hp47)) rfl rfl ?_
                            exact by
                             refine ih49 (z523, hp47, t48) ⟨Hhp47, Fhp47, i50, (by first | omega | assumption)⟩ ?_
                             show (8 - z523.toInt).toNat < (8 - k46.toInt).toNat
                             omega
                          · skip
                            refine Ev.step (j := 78) (s' := ([some (.ref 7), some (.ref a1), some (.ref 12), some (.int z23), some (.int z28), some (.int z40), some (.int k46), none], [.int z40], (0, 0), hp47)) rfl rfl ?_
                            exact by
                             refine bs_lit (k := 1) rfl rfl fun z524 hz524 => ?_
                             refine Ev.step (j := 81) (s' := ([some (.ref 7), some (.ref a1), some (.ref 12), some (.int z23), some (.int z28), some (.int z40), some (.int k46), none], [.int k46, .int z524, .int z40], (0, 0), hp47)) rfl rfl ?_
                             refine bs_any rfl fun z525 => ?_
                             have rz525 := n_range z525
                             refine bs_any rfl fun z526 => ?_
                             have rz526 := n_range z526
                             refine bs_ifeq rfl (fun c527 => ?_) (fun c527 => ?_)
                             · skip
                               have c528 : z526.toInt = 0 := by omega
                               refine bs_iinc (1) rfl rfl rfl rfl (by omega) (by omega) fun z529 hz529 => ?_
                               exact by
                                refine (show Ev _ 112 ([some (.ref 7), some (.ref a1), some (.ref 12), some (.int z23), some (.int z28), some (.int z40), some (.int z529), none], [], (0, 0), hp47) _ from ?_)
                                refine Ev.step (j := 45) (s' := ([some (.ref 7), some (.ref a1), some (.ref 12), some (.int z23), some (.int z28), some (.int z40), some (.int z529), none], [], (0, 0), hp47)) rfl rfl ?_
                                refine ih49 (z529, hp47, t48) ⟨Hhp47, Fhp47, i50, (by first | omega | assumption)⟩ ?_
                                show (8 - z529.toInt).toNat < (8 - k46.toInt).toNat
                                omega
                             · skip
                               refine Ev.step (j := 87) (s' := ([some (.ref 7), some (.ref a1), some (.ref 12), some (.int z23), some (.int z28), some (.int z40), some (.int k46), none], [.ref 7], (0, 0), hp47)) rfl rfl ?_
                               exact by
                                refine Ev.step (j := 88) (s' := ([some (.ref 7), some (.ref a1), some (.ref 12), some (.int z23), some (.int z28), some (.int z40), some (.int k46), none], [.ref 7, .ref 7], (0, 0), hp47)) rfl rfl ?_
                                refine bs_getI 1 rfl rfl rfl Hhp47 (bs_R.uq Hhp47 (g := 1) rfl) (by decide) rfl fun z530 hz530 lz530 gz530 => ?_
                                refine bs_lit (k := 1) rfl rfl fun z531 hz531 => ?_
                                refine Ev.step (j := 94) (s' := ([some (.ref 7), some (.ref a1), some (.ref 12), some (.int z23), some (.int z28), some (.int z40), some (.int k46), none], [.int k46, .int z531, .int z530, .ref 7], (0, 0), hp47)) rfl rfl ?_
                                refine bs_any rfl fun z532 => ?_
                                have rz532 := n_range z532
                                refine bs_any rfl fun z533 => ?_
                                have rz533 := n_range z533
                                refine bs_putI (W := [(1, 2, 2)]) (g := 1) rfl rfl Hhp47 (bs_R.uq Hhp47 (g := 1) rfl) (by decide) rfl rfl rfl rfl (Or.inl rfl) (by omega) (by omega) fun hp534 Hhp534 fhp534 rhp534 ehp534 qhp534 nhp534 => ?_
                                have Fhp534 := sf_fr_tr Fhp47 (sf_fr_wider (W := [(1, 2, 3), (6, 7, 9), (100, 0, 5), (101, 0, 5), (149, 0, 11), (151, 0, 11), (152, 0, 11), (153, 0, 7), (154, 0, 7), (155, 0, 63)]) rfl fhp534)
                                have h535 : sf_rd hp534 12 7 = some z12.toInt := (ehp534 _ _ (Or.inl (by decide))).trans i50
                                have h536 : sf_rd hp534 a1 9 = some z52.toInt := (ehp534 _ _ (Or.inl (bs_nq (ra1.fr Fhp47) (bs_R.uq Hhp47 (g := 1) rfl) (by decide)))).trans hz52
                                have h537 : sf_rd hp534 7 3 = some z286.toInt := (ehp534 _ _ (Or.inr (by omega))).trans hz286
                                have h538 : sf_rd hp534 17 k46.toInt.toNat = some z521.toInt := (ehp534 _ _ (Or.inl (by decide))).trans hz521
                                refine Ev.step (j := 100) (s' := ([some (.ref 7), some (.ref a1), some (.ref 12), some (.int z23), some (.int z28), some (.int z40), some (.int k46), none], [.ref 7], (0, 0), hp534)) rfl rfl ?_
                                exact by
                                 refine Ev.step (j := 101) (s' := ([some (.ref 7), some (.ref a1), some (.ref 12), some (.int z23), some (.int z28), some (.int z40), some (.int k46), none], [.ref 7, .ref 7], (0, 0), hp534)) rfl rfl ?_
                                 refine bs_getI 1 rfl rfl rfl Hhp534 (bs_R.uq Hhp534 (g := 1) rfl) (by decide) rfl fun z539 hz539 lz539 gz539 => ?_
                                 have e540 : z539.toInt = z286.toInt := Option.some.inj (hz539.symm.trans h537)
                                 refine bs_lit (k := 2) rfl rfl fun z541 hz541 => ?_
                                 first | (refine bs_add rfl (by omega) (by omega) fun z542 hz542 => ?_) | (refine bs_any rfl fun z542 => ?_)
                                 have rz542 := n_range z542
                                 refine bs_putI (W := [(1, 3, 3)]) (g := 1) rfl rfl Hhp534 (bs_R.uq Hhp534 (g := 1) rfl) (by decide) rfl rfl rfl rfl (Or.inl rfl) (by omega) (by omega) fun hp543 Hhp543 fhp543 rhp543 ehp543 qhp543 nhp543 => ?_
                                 have Fhp543 := sf_fr_tr Fhp534 (sf_fr_wider (W := [(1, 2, 3), (6, 7, 9), (100, 0, 5), (101, 0, 5), (149, 0, 11), (151, 0, 11), (152, 0, 11), (153, 0, 7), (154, 0, 7), (155, 0, 63)]) rfl fhp543)
                                 have h544 : sf_rd hp543 12 7 = some z12.toInt := (ehp543 _ _ (Or.inl (by decide))).trans h535
                                 have h545 : sf_rd hp543 a1 9 = some z52.toInt := (ehp543 _ _ (Or.inl (bs_nq (ra1.fr Fhp534) (bs_R.uq Hhp534 (g := 1) rfl) (by decide)))).trans h536
                                 have h546 : sf_rd hp543 17 k46.toInt.toNat = some z521.toInt := (ehp543 _ _ (Or.inl (by decide))).trans h538
                                 have h547 : sf_rd hp543 7 2 = some z533.toInt := (ehp543 _ _ (Or.inr (by omega))).trans rhp534
                                 refine bs_iinc (1) rfl rfl rfl rfl (by omega) (by omega) fun z548 hz548 => ?_
                                 exact by
                                  refine (show Ev _ 112 ([some (.ref 7), some (.ref a1), some (.ref 12), some (.int z23), some (.int z28), some (.int z40), some (.int z548), none], [], (0, 0), hp543) _ from ?_)
                                  refine Ev.step (j := 45) (s' := ([some (.ref 7), some (.ref a1), some (.ref 12), some (.int z23), some (.int z28), some (.int z40), some (.int z548), none], [], (0, 0), hp543)) rfl rfl ?_
                                  refine ih49 (z548, hp543, t48) ⟨Hhp543, Fhp543, h544, (by first | omega | assumption)⟩ ?_
                                  show (8 - z548.toInt).toNat < (8 - k46.toInt).toNat
                                  omega
def kq_X6_apartOf_7cc412 : sf_Q := ([(1, 14, 0), (0, 0, 0), (0, 0, 0)], [(1, 3, 0, 0, 7, 0), (1, 6, 0, 0, 7, 0)], some (0, 0, 0), [], [])
def kc_X6_apartOf_7cc412 : List (Nat × sf_I) := [(0, 2, [1, 1]),
  (1, 2, [2, 2]),
  (2, 21, [5, 19, 3]),
  (5, 4, [6, 0]),
  (6, 23, [9, 6, 6]),
  (9, 2, [10, 1]),
  (10, 0, [12, 8]),
  (12, 9, [13, 2]),
  (13, 2, [14, 2]),
  (14, 9, [15, 0]),
  (15, 25, [16, 1]),
  (16, 22, [30]),
  (19, 4, [20, 0]),
  (20, 23, [23, 6, 6]),
  (23, 2, [24, 2]),
  (24, 0, [26, 8]),
  (26, 9, [27, 2]),
  (27, 2, [28, 1]),
  (28, 9, [29, 0]),
  (29, 25, [30, 1]),
  (30, 35, [0, 0])]
def kd_X6_apartOf_7cc412_0 : List (Nat × sf_D × sf_M) := [(0, ([(1, 14, 0), (0, 0, 0), (0, 0, 0)], [], [(1, 4, 0, 0, 7, 0), (1, 7, 0, 0, 7, 0)], 0, 0), (12, [])),
  (1, ([(1, 14, 0), (0, 0, 0), (0, 0, 0)], [(0, 0, 0)], [(1, 4, 0, 0, 7, 0), (1, 7, 0, 0, 7, 0), (1, 0, 0, 0, 7, 0), (2, 0, 4, 1, 0, 0)], 0, 0), (11, [])),
  (2, ([(1, 14, 0), (0, 0, 0), (0, 0, 0)], [(0, 0, 0), (0, 0, 0)], [(1, 4, 0, 0, 7, 0), (1, 7, 0, 0, 7, 0), (1, 0, 0, 0, 7, 0), (1, 3, 0, 0, 7, 0), (2, 0, 4, 1, 0, 0), (2, 3, 7, 1, 0, 0)], 0, 0), (10, [])),
  (5, ([(1, 14, 0), (0, 0, 0), (0, 0, 0)], [], [(1, 4, 0, 1, 7, 0), (1, 7, 0, 0, 6, 0)], 0, 0), (9, [])),
  (6, ([(1, 14, 0), (0, 0, 0), (0, 0, 0)], [(1, 14, 0)], [(1, 4, 0, 1, 7, 0), (1, 7, 0, 0, 6, 0)], 0, 0), (8, [])),
  (9, ([(1, 14, 0), (0, 0, 0), (0, 0, 0)], [(1, 169, 0)], [(1, 4, 0, 1, 7, 0), (1, 7, 0, 0, 6, 0)], 0, 0), (7, [])),
  (10, ([(1, 14, 0), (0, 0, 0), (0, 0, 0)], [(0, 0, 0), (1, 169, 0)], [(1, 4, 0, 1, 7, 0), (1, 7, 0, 0, 6, 0), (1, 3, 0, 1, 7, 0), (2, 3, 4, 1, 0, 0)], 0, 0), (6, [])),
  (12, ([(1, 14, 0), (0, 0, 0), (0, 0, 0)], [(0, 0, 0), (0, 0, 0), (1, 169, 0)], [(1, 4, 0, 1, 7, 0), (1, 7, 0, 0, 6, 0), (1, 3, 0, 1, 7, 0), (1, 6, 0, 8, 8, 0), (2, 3, 4, 1, 0, 0)], 0, 0), (5, [])),
  (13, ([(1, 14, 0), (0, 0, 0), (0, 0, 0)], [(0, 0, 0), (1, 169, 0)], [(1, 4, 0, 1, 7, 0), (1, 7, 0, 0, 6, 0), (1, 3, 0, 8, 56, 0), (2, 3, 4, 8, 0, 0)], 0, 0), (4, []))]
def kd_X6_apartOf_7cc412_1 : List (Nat × sf_D × sf_M) := [(14, ([(1, 14, 0), (0, 0, 0), (0, 0, 0)], [(0, 0, 0), (0, 0, 0), (1, 169, 0)], [(1, 4, 0, 1, 7, 0), (1, 7, 0, 0, 6, 0), (1, 3, 0, 8, 56, 0), (1, 6, 0, 0, 6, 0), (2, 3, 4, 8, 0, 0), (2, 6, 7, 1, 0, 0)], 0, 0), (3, [])),
  (15, ([(1, 14, 0), (0, 0, 0), (0, 0, 0)], [(0, 0, 0), (1, 169, 0)], [(1, 4, 0, 1, 7, 0), (1, 7, 0, 0, 6, 0), (1, 3, 0, 8, 62, 0)], 0, 0), (2, [])),
  (16, ([(1, 14, 0), (0, 0, 0), (0, 0, 0)], [(0, 0, 0)], [(1, 4, 0, 1, 7, 0), (1, 7, 0, 0, 6, 0), (1, 0, 0, -2147483648, 2147483647, 0)], 0, 0), (1, [])),
  (19, ([(1, 14, 0), (0, 0, 0), (0, 0, 0)], [], [(1, 4, 0, 0, 7, 0), (1, 7, 0, 0, 7, 0)], 0, 0), (8, [])),
  (20, ([(1, 14, 0), (0, 0, 0), (0, 0, 0)], [(1, 14, 0)], [(1, 4, 0, 0, 7, 0), (1, 7, 0, 0, 7, 0)], 0, 0), (7, [])),
  (23, ([(1, 14, 0), (0, 0, 0), (0, 0, 0)], [(1, 169, 0)], [(1, 4, 0, 0, 7, 0), (1, 7, 0, 0, 7, 0)], 0, 0), (6, [])),
  (24, ([(1, 14, 0), (0, 0, 0), (0, 0, 0)], [(0, 0, 0), (1, 169, 0)], [(1, 4, 0, 0, 7, 0), (1, 7, 0, 0, 7, 0), (1, 3, 0, 0, 7, 0), (2, 3, 7, 1, 0, 0)], 0, 0), (5, [])),
  (26, ([(1, 14, 0), (0, 0, 0), (0, 0, 0)], [(0, 0, 0), (0, 0, 0), (1, 169, 0)], [(1, 4, 0, 0, 7, 0), (1, 7, 0, 0, 7, 0), (1, 3, 0, 0, 7, 0), (1, 6, 0, 8, 8, 0), (2, 3, 7, 1, 0, 0)], 0, 0), (4, [])),
  (27, ([(1, 14, 0), (0, 0, 0), (0, 0, 0)], [(0, 0, 0), (1, 169, 0)], [(1, 4, 0, 0, 7, 0), (1, 7, 0, 0, 7, 0), (1, 3, 0, 0, 56, 0), (2, 3, 7, 8, 0, 0)], 0, 0), (3, []))]
def kd_X6_apartOf_7cc412_2 : List (Nat × sf_D × sf_M) := [(28, ([(1, 14, 0), (0, 0, 0), (0, 0, 0)], [(0, 0, 0), (0, 0, 0), (1, 169, 0)], [(1, 4, 0, 0, 7, 0), (1, 7, 0, 0, 7, 0), (1, 3, 0, 0, 56, 0), (1, 6, 0, 0, 7, 0), (2, 3, 7, 8, 0, 0), (2, 6, 4, 1, 0, 0)], 0, 0), (2, [])),
  (29, ([(1, 14, 0), (0, 0, 0), (0, 0, 0)], [(0, 0, 0), (1, 169, 0)], [(1, 4, 0, 0, 7, 0), (1, 7, 0, 0, 7, 0), (1, 3, 0, 0, 63, 0)], 0, 0), (1, [])),
  (30, ([(1, 14, 0), (0, 0, 0), (0, 0, 0)], [(0, 0, 0)], [(1, 4, 0, 0, 7, 0), (1, 7, 0, 0, 7, 0), (1, 0, 0, -2147483648, 2147483647, 0)], 0, 0), (0, []))]
def kd_X6_apartOf_7cc412 : List (Nat × sf_D × sf_M) := kd_X6_apartOf_7cc412_0 ++ (kd_X6_apartOf_7cc412_1 ++ (kd_X6_apartOf_7cc412_2))
set_option maxRecDepth 100000 in
theorem kt_X6_apartOf_7cc412 : sf_chk [] kq_X6_apartOf_7cc412 3 kc_X6_apartOf_7cc412 kd_X6_apartOf_7cc412 = true := by decide +kernel
set_option maxRecDepth 100000 in
theorem kl_X6_apartOf_7cc412 : (kc_X6_apartOf_7cc412).map (fun c => (c.1, sf_den ([] : List sf_X) c.2)) = L_X6_apartOf := rfl
theorem ct_X6_apartOf_7cc412 : sf_ct kq_X6_apartOf_7cc412 Z_X6_apartOf := by
  have h := sf_meth (K := []) (E := []) (k := kq_X6_apartOf_7cc412) (nL := 3) (C := kc_X6_apartOf_7cc412) (D := kd_X6_apartOf_7cc412) (fun m k hk => match m, hk with
    | _ + 0, hk => (by cases hk)) kt_X6_apartOf_7cc412
  rw [kl_X6_apartOf_7cc412] at h
  exact h
def kq_X6_isFelt_3811ce : sf_Q := ([(1, 14, 0), (1, 7, 0), (0, 0, 0)], [(1, 6, 0, 0, 19, 0)], some (0, 0, 0), [(1, 0, 0, 0, 1, 0)], [])
def kc_X6_isFelt_3811ce : List (Nat × sf_I) := [(0, 4, [1, 1]),
  (1, 23, [4, 7, 4]),
  (4, 2, [5, 2]),
  (5, 25, [6, 1]),
  (6, 5, [7, 3]),
  (7, 4, [8, 1]),
  (8, 23, [11, 7, 5]),
  (11, 2, [12, 2]),
  (12, 25, [13, 1]),
  (13, 5, [15, 4]),
  (15, 4, [16, 0]),
  (16, 23, [19, 6, 4]),
  (19, 2, [20, 3]),
  (20, 25, [21, 1]),
  (21, 0, [22, -1]),
  (22, 21, [25, 40, 0]),
  (25, 4, [26, 0]),
  (26, 23, [29, 6, 4]),
  (29, 2, [31, 4]),
  (31, 25, [32, 1]),
  (32, 0, [33, -1]),
  (33, 21, [36, 40, 0]),
  (36, 0, [37, 1]),
  (37, 22, [41]),
  (40, 0, [41, 0]),
  (41, 5, [43, 5]),
  (43, 2, [45, 5]),
  (45, 20, [48, 84, 0]),
  (48, 4, [49, 0]),
  (49, 23, [52, 6, 4]),
  (52, 2, [53, 3]),
  (53, 25, [54, 1]),
  (54, 4, [55, 0]),
  (55, 23, [58, 6, 4]),
  (58, 2, [60, 4]),
  (60, 25, [61, 1]),
  (61, 21, [64, 84, 0]),
  (64, 4, [65, 0]),
  (65, 2, [66, 3]),
  (66, 2, [68, 4]),
  (68, 32, [71, 0, 3, 6, 0, 0, 0, 0]),
  (71, 4, [72, 1]),
  (72, 23, [75, 7, 6]),
  (75, 2, [76, 2]),
  (76, 25, [77, 1]),
  (77, 21, [80, 84, 2]),
  (80, 0, [81, 1]),
  (81, 22, [85]),
  (84, 0, [85, 0]),
  (85, 36, [0, 0])]
def kd_X6_isFelt_3811ce_0 : List (Nat × sf_D × sf_M) := [(0, ([(1, 14, 0), (1, 7, 0), (0, 0, 0), (8, 0, 0), (8, 0, 0), (8, 0, 0)], [], [(1, 7, 0, 0, 19, 0)], 0, 0), (47, [])),
  (1, ([(1, 14, 0), (1, 7, 0), (0, 0, 0), (8, 0, 0), (8, 0, 0), (8, 0, 0)], [(1, 7, 0)], [(1, 7, 0, 0, 19, 0)], 0, 0), (46, [])),
  (4, ([(1, 14, 0), (1, 7, 0), (0, 0, 0), (8, 0, 0), (8, 0, 0), (8, 0, 0)], [(1, 120, 0)], [(1, 7, 0, 0, 19, 0)], 0, 0), (45, [])),
  (5, ([(1, 14, 0), (1, 7, 0), (0, 0, 0), (8, 0, 0), (8, 0, 0), (8, 0, 0)], [(0, 0, 0), (1, 120, 0)], [(1, 7, 0, 0, 19, 0), (1, 3, 0, 0, 19, 0), (2, 3, 7, 1, 0, 0)], 0, 0), (44, [])),
  (6, ([(1, 14, 0), (1, 7, 0), (0, 0, 0), (8, 0, 0), (8, 0, 0), (8, 0, 0)], [(0, 0, 0)], [(1, 7, 0, 0, 19, 0), (1, 0, 0, 0, 7, 0)], 0, 0), (43, [])),
  (7, ([(1, 14, 0), (1, 7, 0), (0, 0, 0), (0, 0, 0), (8, 0, 0), (8, 0, 0)], [], [(1, 7, 0, 0, 19, 0), (1, 10, 0, 0, 7, 0)], 0, 0), (42, [])),
  (8, ([(1, 14, 0), (1, 7, 0), (0, 0, 0), (0, 0, 0), (8, 0, 0), (8, 0, 0)], [(1, 7, 0)], [(1, 7, 0, 0, 19, 0), (1, 10, 0, 0, 7, 0)], 0, 0), (41, [])),
  (11, ([(1, 14, 0), (1, 7, 0), (0, 0, 0), (0, 0, 0), (8, 0, 0), (8, 0, 0)], [(1, 121, 0)], [(1, 7, 0, 0, 19, 0), (1, 10, 0, 0, 7, 0)], 0, 0), (40, [])),
  (12, ([(1, 14, 0), (1, 7, 0), (0, 0, 0), (0, 0, 0), (8, 0, 0), (8, 0, 0)], [(0, 0, 0), (1, 121, 0)], [(1, 7, 0, 0, 19, 0), (1, 10, 0, 0, 7, 0), (1, 3, 0, 0, 19, 0), (2, 3, 7, 1, 0, 0)], 0, 0), (39, []))]
def kd_X6_isFelt_3811ce_1 : List (Nat × sf_D × sf_M) := [(13, ([(1, 14, 0), (1, 7, 0), (0, 0, 0), (0, 0, 0), (8, 0, 0), (8, 0, 0)], [(0, 0, 0)], [(1, 7, 0, 0, 19, 0), (1, 10, 0, 0, 7, 0), (1, 0, 0, 0, 7, 0)], 0, 0), (38, [])),
  (15, ([(1, 14, 0), (1, 7, 0), (0, 0, 0), (0, 0, 0), (0, 0, 0), (8, 0, 0)], [], [(1, 7, 0, 0, 19, 0), (1, 10, 0, 0, 7, 0), (1, 13, 0, 0, 7, 0)], 0, 0), (37, [])),
  (16, ([(1, 14, 0), (1, 7, 0), (0, 0, 0), (0, 0, 0), (0, 0, 0), (8, 0, 0)], [(1, 14, 0)], [(1, 7, 0, 0, 19, 0), (1, 10, 0, 0, 7, 0), (1, 13, 0, 0, 7, 0)], 0, 0), (36, [])),
  (19, ([(1, 14, 0), (1, 7, 0), (0, 0, 0), (0, 0, 0), (0, 0, 0), (8, 0, 0)], [(1, 167, 0)], [(1, 7, 0, 0, 19, 0), (1, 10, 0, 0, 7, 0), (1, 13, 0, 0, 7, 0)], 0, 0), (35, [])),
  (20, ([(1, 14, 0), (1, 7, 0), (0, 0, 0), (0, 0, 0), (0, 0, 0), (8, 0, 0)], [(0, 0, 0), (1, 167, 0)], [(1, 7, 0, 0, 19, 0), (1, 10, 0, 0, 7, 0), (1, 13, 0, 0, 7, 0), (1, 3, 0, 0, 7, 0), (2, 3, 10, 1, 0, 0)], 0, 0), (34, [])),
  (21, ([(1, 14, 0), (1, 7, 0), (0, 0, 0), (0, 0, 0), (0, 0, 0), (8, 0, 0)], [(0, 0, 0)], [(1, 7, 0, 0, 19, 0), (1, 10, 0, 0, 7, 0), (1, 13, 0, 0, 7, 0), (1, 0, 0, -2147483648, 2147483647, 0)], 0, 0), (33, [])),
  (22, ([(1, 14, 0), (1, 7, 0), (0, 0, 0), (0, 0, 0), (0, 0, 0), (8, 0, 0)], [(0, 0, 0), (0, 0, 0)], [(1, 7, 0, 0, 19, 0), (1, 10, 0, 0, 7, 0), (1, 13, 0, 0, 7, 0), (1, 0, 0, -2147483648, 2147483647, 0), (1, 3, 0, -1, -1, 0)], 0, 0), (32, []))]
def kd_X6_isFelt_3811ce_2 : List (Nat × sf_D × sf_M) := [(25, ([(1, 14, 0), (1, 7, 0), (0, 0, 0), (0, 0, 0), (0, 0, 0), (8, 0, 0)], [], [(1, 7, 0, 0, 19, 0), (1, 10, 0, 0, 7, 0), (1, 13, 0, 0, 7, 0)], 0, 0), (31, [])),
  (26, ([(1, 14, 0), (1, 7, 0), (0, 0, 0), (0, 0, 0), (0, 0, 0), (8, 0, 0)], [(1, 14, 0)], [(1, 7, 0, 0, 19, 0), (1, 10, 0, 0, 7, 0), (1, 13, 0, 0, 7, 0)], 0, 0), (30, [])),
  (29, ([(1, 14, 0), (1, 7, 0), (0, 0, 0), (0, 0, 0), (0, 0, 0), (8, 0, 0)], [(1, 167, 0)], [(1, 7, 0, 0, 19, 0), (1, 10, 0, 0, 7, 0), (1, 13, 0, 0, 7, 0)], 0, 0), (29, [])),
  (31, ([(1, 14, 0), (1, 7, 0), (0, 0, 0), (0, 0, 0), (0, 0, 0), (8, 0, 0)], [(0, 0, 0), (1, 167, 0)], [(1, 7, 0, 0, 19, 0), (1, 10, 0, 0, 7, 0), (1, 13, 0, 0, 7, 0), (1, 3, 0, 0, 7, 0), (2, 3, 13, 1, 0, 0)], 0, 0), (28, [])),
  (32, ([(1, 14, 0), (1, 7, 0), (0, 0, 0), (0, 0, 0), (0, 0, 0), (8, 0, 0)], [(0, 0, 0)], [(1, 7, 0, 0, 19, 0), (1, 10, 0, 0, 7, 0), (1, 13, 0, 0, 7, 0), (1, 0, 0, -2147483648, 2147483647, 0)], 0, 0), (27, [])),
  (33, ([(1, 14, 0), (1, 7, 0), (0, 0, 0), (0, 0, 0), (0, 0, 0), (8, 0, 0)], [(0, 0, 0), (0, 0, 0)], [(1, 7, 0, 0, 19, 0), (1, 10, 0, 0, 7, 0), (1, 13, 0, 0, 7, 0), (1, 0, 0, -2147483648, 2147483647, 0), (1, 3, 0, -1, -1, 0)], 0, 0), (26, [])),
  (36, ([(1, 14, 0), (1, 7, 0), (0, 0, 0), (0, 0, 0), (0, 0, 0), (8, 0, 0)], [], [(1, 7, 0, 0, 19, 0), (1, 10, 0, 0, 7, 0), (1, 13, 0, 0, 7, 0)], 0, 0), (25, []))]
def kd_X6_isFelt_3811ce_3 : List (Nat × sf_D × sf_M) := [(37, ([(1, 14, 0), (1, 7, 0), (0, 0, 0), (0, 0, 0), (0, 0, 0), (8, 0, 0)], [(0, 0, 0)], [(1, 7, 0, 0, 19, 0), (1, 10, 0, 0, 7, 0), (1, 13, 0, 0, 7, 0), (1, 0, 0, 1, 1, 0)], 0, 0), (24, [])),
  (40, ([(1, 14, 0), (1, 7, 0), (0, 0, 0), (0, 0, 0), (0, 0, 0), (8, 0, 0)], [], [(1, 7, 0, 0, 19, 0), (1, 10, 0, 0, 7, 0), (1, 13, 0, 0, 7, 0)], 0, 0), (24, [])),
  (41, ([(1, 14, 0), (1, 7, 0), (0, 0, 0), (0, 0, 0), (0, 0, 0), (8, 0, 0)], [(0, 0, 0)], [(1, 7, 0, 0, 19, 0), (1, 10, 0, 0, 7, 0), (1, 13, 0, 0, 7, 0), (1, 0, 0, 0, 1, 0)], 0, 0), (23, [])),
  (43, ([(1, 14, 0), (1, 7, 0), (0, 0, 0), (0, 0, 0), (0, 0, 0), (0, 0, 0)], [], [(1, 7, 0, 0, 19, 0), (1, 10, 0, 0, 7, 0), (1, 13, 0, 0, 7, 0), (1, 16, 0, 0, 1, 0)], 0, 0), (22, [])),
  (45, ([(1, 14, 0), (1, 7, 0), (0, 0, 0), (0, 0, 0), (0, 0, 0), (0, 0, 0)], [(0, 0, 0)], [(1, 7, 0, 0, 19, 0), (1, 10, 0, 0, 7, 0), (1, 13, 0, 0, 7, 0), (1, 16, 0, 0, 1, 0), (1, 0, 0, 0, 1, 0), (2, 0, 16, 1, 0, 0)], 0, 0), (21, [])),
  (48, ([(1, 14, 0), (1, 7, 0), (0, 0, 0), (0, 0, 0), (0, 0, 0), (0, 0, 0)], [], [(1, 7, 0, 0, 19, 0), (1, 10, 0, 0, 7, 0), (1, 13, 0, 0, 7, 0), (1, 16, 0, 1, 1, 0)], 0, 0), (20, []))]
def kd_X6_isFelt_3811ce_4 : List (Nat × sf_D × sf_M) := [(49, ([(1, 14, 0), (1, 7, 0), (0, 0, 0), (0, 0, 0), (0, 0, 0), (0, 0, 0)], [(1, 14, 0)], [(1, 7, 0, 0, 19, 0), (1, 10, 0, 0, 7, 0), (1, 13, 0, 0, 7, 0), (1, 16, 0, 1, 1, 0)], 0, 0), (19, [])),
  (52, ([(1, 14, 0), (1, 7, 0), (0, 0, 0), (0, 0, 0), (0, 0, 0), (0, 0, 0)], [(1, 167, 0)], [(1, 7, 0, 0, 19, 0), (1, 10, 0, 0, 7, 0), (1, 13, 0, 0, 7, 0), (1, 16, 0, 1, 1, 0)], 0, 0), (18, [])),
  (53, ([(1, 14, 0), (1, 7, 0), (0, 0, 0), (0, 0, 0), (0, 0, 0), (0, 0, 0)], [(0, 0, 0), (1, 167, 0)], [(1, 7, 0, 0, 19, 0), (1, 10, 0, 0, 7, 0), (1, 13, 0, 0, 7, 0), (1, 16, 0, 1, 1, 0), (1, 3, 0, 0, 7, 0), (2, 3, 10, 1, 0, 0)], 0, 0), (17, [])),
  (54, ([(1, 14, 0), (1, 7, 0), (0, 0, 0), (0, 0, 0), (0, 0, 0), (0, 0, 0)], [(0, 0, 0)], [(1, 7, 0, 0, 19, 0), (1, 10, 0, 0, 7, 0), (1, 13, 0, 0, 7, 0), (1, 16, 0, 1, 1, 0), (1, 0, 0, -2147483648, 2147483647, 0)], 0, 0), (16, [])),
  (55, ([(1, 14, 0), (1, 7, 0), (0, 0, 0), (0, 0, 0), (0, 0, 0), (0, 0, 0)], [(1, 14, 0), (0, 0, 0)], [(1, 7, 0, 0, 19, 0), (1, 10, 0, 0, 7, 0), (1, 13, 0, 0, 7, 0), (1, 16, 0, 1, 1, 0), (1, 0, 0, -2147483648, 2147483647, 0)], 0, 0), (15, []))]
def kd_X6_isFelt_3811ce_5 : List (Nat × sf_D × sf_M) := [(58, ([(1, 14, 0), (1, 7, 0), (0, 0, 0), (0, 0, 0), (0, 0, 0), (0, 0, 0)], [(1, 167, 0), (0, 0, 0)], [(1, 7, 0, 0, 19, 0), (1, 10, 0, 0, 7, 0), (1, 13, 0, 0, 7, 0), (1, 16, 0, 1, 1, 0), (1, 0, 0, -2147483648, 2147483647, 0)], 0, 0), (14, [])),
  (60, ([(1, 14, 0), (1, 7, 0), (0, 0, 0), (0, 0, 0), (0, 0, 0), (0, 0, 0)], [(0, 0, 0), (1, 167, 0), (0, 0, 0)], [(1, 7, 0, 0, 19, 0), (1, 10, 0, 0, 7, 0), (1, 13, 0, 0, 7, 0), (1, 16, 0, 1, 1, 0), (1, 0, 0, -2147483648, 2147483647, 0), (1, 6, 0, 0, 7, 0), (2, 6, 13, 1, 0, 0)], 0, 0), (13, [])),
  (61, ([(1, 14, 0), (1, 7, 0), (0, 0, 0), (0, 0, 0), (0, 0, 0), (0, 0, 0)], [(0, 0, 0), (0, 0, 0)], [(1, 7, 0, 0, 19, 0), (1, 10, 0, 0, 7, 0), (1, 13, 0, 0, 7, 0), (1, 16, 0, 1, 1, 0), (1, 0, 0, -2147483648, 2147483647, 0), (1, 3, 0, -2147483648, 2147483647, 0)], 0, 0), (12, [])),
  (64, ([(1, 14, 0), (1, 7, 0), (0, 0, 0), (0, 0, 0), (0, 0, 0), (0, 0, 0)], [], [(1, 7, 0, 0, 19, 0), (1, 10, 0, 0, 7, 0), (1, 13, 0, 0, 7, 0), (1, 16, 0, 1, 1, 0)], 0, 0), (11, [])),
  (65, ([(1, 14, 0), (1, 7, 0), (0, 0, 0), (0, 0, 0), (0, 0, 0), (0, 0, 0)], [(1, 14, 0)], [(1, 7, 0, 0, 19, 0), (1, 10, 0, 0, 7, 0), (1, 13, 0, 0, 7, 0), (1, 16, 0, 1, 1, 0)], 0, 0), (10, []))]
def kd_X6_isFelt_3811ce_6 : List (Nat × sf_D × sf_M) := [(66, ([(1, 14, 0), (1, 7, 0), (0, 0, 0), (0, 0, 0), (0, 0, 0), (0, 0, 0)], [(0, 0, 0), (1, 14, 0)], [(1, 7, 0, 0, 19, 0), (1, 10, 0, 0, 7, 0), (1, 13, 0, 0, 7, 0), (1, 16, 0, 1, 1, 0), (1, 3, 0, 0, 7, 0), (2, 3, 10, 1, 0, 0)], 0, 0), (9, [])),
  (68, ([(1, 14, 0), (1, 7, 0), (0, 0, 0), (0, 0, 0), (0, 0, 0), (0, 0, 0)], [(0, 0, 0), (0, 0, 0), (1, 14, 0)], [(1, 7, 0, 0, 19, 0), (1, 10, 0, 0, 7, 0), (1, 13, 0, 0, 7, 0), (1, 16, 0, 1, 1, 0), (1, 3, 0, 0, 7, 0), (1, 6, 0, 0, 7, 0), (2, 3, 10, 1, 0, 0), (2, 6, 13, 1, 0, 0)], 0, 0), (8, [])),
  (71, ([(1, 14, 0), (1, 7, 0), (0, 0, 0), (0, 0, 0), (0, 0, 0), (0, 0, 0)], [(0, 0, 0)], [(1, 7, 0, 0, 19, 0), (1, 10, 0, 0, 7, 0), (1, 13, 0, 0, 7, 0), (1, 16, 0, 1, 1, 0), (1, 0, 0, -2147483648, 2147483647, 0)], 0, 0), (7, [])),
  (72, ([(1, 14, 0), (1, 7, 0), (0, 0, 0), (0, 0, 0), (0, 0, 0), (0, 0, 0)], [(1, 7, 0), (0, 0, 0)], [(1, 7, 0, 0, 19, 0), (1, 10, 0, 0, 7, 0), (1, 13, 0, 0, 7, 0), (1, 16, 0, 1, 1, 0), (1, 0, 0, -2147483648, 2147483647, 0)], 0, 0), (6, [])),
  (75, ([(1, 14, 0), (1, 7, 0), (0, 0, 0), (0, 0, 0), (0, 0, 0), (0, 0, 0)], [(1, 122, 0), (0, 0, 0)], [(1, 7, 0, 0, 19, 0), (1, 10, 0, 0, 7, 0), (1, 13, 0, 0, 7, 0), (1, 16, 0, 1, 1, 0), (1, 0, 0, -2147483648, 2147483647, 0)], 0, 0), (5, []))]
def kd_X6_isFelt_3811ce_7 : List (Nat × sf_D × sf_M) := [(76, ([(1, 14, 0), (1, 7, 0), (0, 0, 0), (0, 0, 0), (0, 0, 0), (0, 0, 0)], [(0, 0, 0), (1, 122, 0), (0, 0, 0)], [(1, 7, 0, 0, 19, 0), (1, 10, 0, 0, 7, 0), (1, 13, 0, 0, 7, 0), (1, 16, 0, 1, 1, 0), (1, 0, 0, -2147483648, 2147483647, 0), (1, 6, 0, 0, 19, 0), (2, 6, 7, 1, 0, 0)], 0, 0), (4, [])),
  (77, ([(1, 14, 0), (1, 7, 0), (0, 0, 0), (0, 0, 0), (0, 0, 0), (0, 0, 0)], [(0, 0, 0), (0, 0, 0)], [(1, 7, 0, 0, 19, 0), (1, 10, 0, 0, 7, 0), (1, 13, 0, 0, 7, 0), (1, 16, 0, 1, 1, 0), (1, 0, 0, -2147483648, 2147483647, 0), (1, 3, 0, -2147483648, 2147483647, 0)], 0, 0), (3, [])),
  (80, ([(1, 14, 0), (1, 7, 0), (0, 0, 0), (0, 0, 0), (0, 0, 0), (0, 0, 0)], [], [(1, 7, 0, 0, 19, 0), (1, 10, 0, 0, 7, 0), (1, 13, 0, 0, 7, 0), (1, 16, 0, 1, 1, 0)], 0, 0), (2, [])),
  (81, ([(1, 14, 0), (1, 7, 0), (0, 0, 0), (0, 0, 0), (0, 0, 0), (0, 0, 0)], [(0, 0, 0)], [(1, 7, 0, 0, 19, 0), (1, 10, 0, 0, 7, 0), (1, 13, 0, 0, 7, 0), (1, 16, 0, 1, 1, 0), (1, 0, 0, 1, 1, 0)], 0, 0), (1, [])),
  (84, ([(1, 14, 0), (1, 7, 0), (0, 0, 0), (0, 0, 0), (0, 0, 0), (0, 0, 0)], [], [(1, 7, 0, 0, 19, 0), (1, 10, 0, 0, 7, 0), (1, 13, 0, 0, 7, 0), (1, 16, 0, 0, 1, 0)], 0, 0), (1, []))]
def kd_X6_isFelt_3811ce_8 : List (Nat × sf_D × sf_M) := [(85, ([(1, 14, 0), (1, 7, 0), (0, 0, 0), (0, 0, 0), (0, 0, 0), (0, 0, 0)], [(0, 0, 0)], [(1, 7, 0, 0, 19, 0), (1, 10, 0, 0, 7, 0), (1, 13, 0, 0, 7, 0), (1, 16, 0, 0, 1, 0), (1, 0, 0, 0, 1, 0), (3, 0, 16, 1, 1, 0)], 0, 0), (0, []))]
def kd_X6_isFelt_3811ce : List (Nat × sf_D × sf_M) := kd_X6_isFelt_3811ce_0 ++ (kd_X6_isFelt_3811ce_1 ++ (kd_X6_isFelt_3811ce_2 ++ (kd_X6_isFelt_3811ce_3 ++ (kd_X6_isFelt_3811ce_4 ++ (kd_X6_isFelt_3811ce_5 ++ (kd_X6_isFelt_3811ce_6 ++ (kd_X6_isFelt_3811ce_7 ++ (kd_X6_isFelt_3811ce_8))))))))
set_option maxRecDepth 100000 in
theorem kt_X6_isFelt_3811ce : sf_chk [kq_X6_apartOf_7cc412] kq_X6_isFelt_3811ce 6 kc_X6_isFelt_3811ce kd_X6_isFelt_3811ce = true := by decide +kernel
set_option maxRecDepth 100000 in
theorem kl_X6_isFelt_3811ce : (kc_X6_isFelt_3811ce).map (fun c => (c.1, sf_den ([Z_X6_apartOf] : List sf_X) c.2)) = L_X6_isFelt Z_X6_apartOf := rfl
theorem ct_X6_isFelt_3811ce : sf_ct kq_X6_isFelt_3811ce Z_X6_isFelt := by
  have h := sf_meth (K := [kq_X6_apartOf_7cc412]) (E := [Z_X6_apartOf]) (k := kq_X6_isFelt_3811ce) (nL := 6) (C := kc_X6_isFelt_3811ce) (D := kd_X6_isFelt_3811ce) (fun m k hk => match m, hk with
    | 0, hk => (Option.some.inj hk) ▸ ct_X6_apartOf_7cc412
    | _ + 1, hk => (by cases hk)) kt_X6_isFelt_3811ce
  rw [kl_X6_isFelt_3811ce] at h
  exact h
def kq_X6_allMissed_f03dbc : sf_Q := ([(1, 14, 0), (1, 7, 0)], [], some (0, 0, 0), [], [])
def kc_X6_allMissed_f03dbc : List (Nat × sf_I) := [(0, 0, [1, 0]),
  (1, 5, [2, 2]),
  (2, 0, [3, 0]),
  (3, 5, [4, 3]),
  (4, 2, [5, 3]),
  (5, 4, [6, 1]),
  (6, 23, [9, 7, 10]),
  (9, 21, [12, 38, 5]),
  (12, 4, [13, 0]),
  (13, 4, [14, 1]),
  (14, 2, [15, 3]),
  (15, 32, [18, 0, 3, 6, 0, 0, 0, 0]),
  (18, 20, [21, 32, 0]),
  (21, 2, [22, 2]),
  (22, 0, [23, 1]),
  (23, 4, [24, 1]),
  (24, 23, [27, 7, 5]),
  (27, 2, [28, 3]),
  (28, 25, [29, 1]),
  (29, 9, [30, 6]),
  (30, 9, [31, 4]),
  (31, 5, [32, 2]),
  (32, 8, [35, 3, 1]),
  (35, 22, [4]),
  (38, 2, [39, 2]),
  (39, 35, [0, 0])]
def kd_X6_allMissed_f03dbc_0 : List (Nat × sf_D × sf_M) := [(0, ([(1, 14, 0), (1, 7, 0), (8, 0, 0), (8, 0, 0)], [], [], 0, 0), (462, [])),
  (1, ([(1, 14, 0), (1, 7, 0), (8, 0, 0), (8, 0, 0)], [(0, 0, 0)], [(1, 0, 0, 0, 0, 0)], 0, 0), (461, [])),
  (2, ([(1, 14, 0), (1, 7, 0), (0, 0, 0), (8, 0, 0)], [], [(1, 7, 0, 0, 0, 0)], 0, 0), (460, [])),
  (3, ([(1, 14, 0), (1, 7, 0), (0, 0, 0), (8, 0, 0)], [(0, 0, 0)], [(1, 7, 0, 0, 0, 0), (1, 0, 0, 0, 0, 0)], 0, 0), (459, [])),
  (4, ([(1, 14, 0), (1, 7, 0), (0, 0, 0), (0, 0, 0)], [], [(1, 7, 0, -2147483648, 2147483647, 0), (1, 10, 0, 0, 20, 0)], 0, 0), (18, [(22, 10, 20, 0)])),
  (5, ([(1, 14, 0), (1, 7, 0), (0, 0, 0), (0, 0, 0)], [(0, 0, 0)], [(1, 7, 0, -2147483648, 2147483647, 0), (1, 10, 0, 0, 20, 0), (1, 0, 0, 0, 20, 0), (2, 0, 10, 1, 0, 0)], 0, 0), (17, [(22, 10, 20, 0)])),
  (6, ([(1, 14, 0), (1, 7, 0), (0, 0, 0), (0, 0, 0)], [(1, 7, 0), (0, 0, 0)], [(1, 7, 0, -2147483648, 2147483647, 0), (1, 10, 0, 0, 20, 0), (1, 0, 0, 0, 20, 0), (2, 0, 10, 1, 0, 0)], 0, 0), (16, [(22, 10, 20, 0)])),
  (9, ([(1, 14, 0), (1, 7, 0), (0, 0, 0), (0, 0, 0)], [(0, 0, 20), (0, 0, 0)], [(1, 7, 0, -2147483648, 2147483647, 0), (1, 10, 0, 0, 20, 0), (1, 0, 0, 0, 20, 0), (1, 3, 0, 0, 20, 0), (2, 0, 10, 1, 0, 0)], 0, 0), (15, [(22, 10, 20, 0)])),
  (12, ([(1, 14, 0), (1, 7, 0), (0, 0, 0), (0, 0, 0)], [], [(1, 7, 0, -2147483648, 2147483647, 0), (1, 10, 0, 0, 19, 0)], 0, 0), (14, [(22, 10, 20, 0)]))]
def kd_X6_allMissed_f03dbc_1 : List (Nat × sf_D × sf_M) := [(13, ([(1, 14, 0), (1, 7, 0), (0, 0, 0), (0, 0, 0)], [(1, 14, 0)], [(1, 7, 0, -2147483648, 2147483647, 0), (1, 10, 0, 0, 19, 0)], 0, 0), (13, [(22, 10, 20, 0)])),
  (14, ([(1, 14, 0), (1, 7, 0), (0, 0, 0), (0, 0, 0)], [(1, 7, 0), (1, 14, 0)], [(1, 7, 0, -2147483648, 2147483647, 0), (1, 10, 0, 0, 19, 0)], 0, 0), (12, [(22, 10, 20, 0)])),
  (15, ([(1, 14, 0), (1, 7, 0), (0, 0, 0), (0, 0, 0)], [(0, 0, 0), (1, 7, 0), (1, 14, 0)], [(1, 7, 0, -2147483648, 2147483647, 0), (1, 10, 0, 0, 19, 0), (1, 6, 0, 0, 19, 0), (2, 6, 10, 1, 0, 0)], 0, 0), (11, [(22, 10, 20, 0)])),
  (18, ([(1, 14, 0), (1, 7, 0), (0, 0, 0), (0, 0, 0)], [(0, 0, 0)], [(1, 7, 0, -2147483648, 2147483647, 0), (1, 10, 0, 0, 19, 0), (1, 0, 0, 0, 1, 0)], 0, 0), (10, [(22, 10, 20, 0)])),
  (21, ([(1, 14, 0), (1, 7, 0), (0, 0, 0), (0, 0, 0)], [], [(1, 7, 0, -2147483648, 2147483647, 0), (1, 10, 0, 0, 19, 0)], 0, 0), (9, [(22, 10, 20, 0)])),
  (22, ([(1, 14, 0), (1, 7, 0), (0, 0, 0), (0, 0, 0)], [(0, 0, 0)], [(1, 7, 0, -2147483648, 2147483647, 0), (1, 10, 0, 0, 19, 0), (1, 0, 0, -2147483648, 2147483647, 0), (2, 0, 7, 1, 0, 0)], 0, 0), (8, [(22, 10, 20, 0)])),
  (23, ([(1, 14, 0), (1, 7, 0), (0, 0, 0), (0, 0, 0)], [(0, 0, 0), (0, 0, 0)], [(1, 7, 0, -2147483648, 2147483647, 0), (1, 10, 0, 0, 19, 0), (1, 0, 0, -2147483648, 2147483647, 0), (1, 3, 0, 1, 1, 0), (2, 0, 7, 1, 0, 0)], 0, 0), (7, [(22, 10, 20, 0)]))]
def kd_X6_allMissed_f03dbc_2 : List (Nat × sf_D × sf_M) := [(24, ([(1, 14, 0), (1, 7, 0), (0, 0, 0), (0, 0, 0)], [(1, 7, 0), (0, 0, 0), (0, 0, 0)], [(1, 7, 0, -2147483648, 2147483647, 0), (1, 10, 0, 0, 19, 0), (1, 0, 0, -2147483648, 2147483647, 0), (1, 3, 0, 1, 1, 0), (2, 0, 7, 1, 0, 0)], 0, 0), (6, [(22, 10, 20, 0)])),
  (27, ([(1, 14, 0), (1, 7, 0), (0, 0, 0), (0, 0, 0)], [(1, 121, 0), (0, 0, 0), (0, 0, 0)], [(1, 7, 0, -2147483648, 2147483647, 0), (1, 10, 0, 0, 19, 0), (1, 0, 0, -2147483648, 2147483647, 0), (1, 3, 0, 1, 1, 0), (2, 0, 7, 1, 0, 0)], 0, 0), (5, [(22, 10, 20, 0)])),
  (28, ([(1, 14, 0), (1, 7, 0), (0, 0, 0), (0, 0, 0)], [(0, 0, 0), (1, 121, 0), (0, 0, 0), (0, 0, 0)], [(1, 7, 0, -2147483648, 2147483647, 0), (1, 10, 0, 0, 19, 0), (1, 0, 0, -2147483648, 2147483647, 0), (1, 3, 0, 1, 1, 0), (1, 9, 0, 0, 19, 0), (2, 0, 7, 1, 0, 0), (2, 9, 10, 1, 0, 0)], 0, 0), (4, [(22, 10, 20, 0)])),
  (29, ([(1, 14, 0), (1, 7, 0), (0, 0, 0), (0, 0, 0)], [(0, 0, 0), (0, 0, 0), (0, 0, 0)], [(1, 7, 0, -2147483648, 2147483647, 0), (1, 10, 0, 0, 19, 0), (1, 0, 0, -2147483648, 2147483647, 0), (1, 3, 0, 1, 1, 0), (1, 6, 0, 0, 7, 0), (2, 0, 7, 1, 0, 0)], 0, 0), (3, [(22, 10, 20, 0)])),
  (30, ([(1, 14, 0), (1, 7, 0), (0, 0, 0), (0, 0, 0)], [(0, 0, 0), (0, 0, 0)], [(1, 7, 0, -2147483648, 2147483647, 0), (1, 10, 0, 0, 19, 0), (1, 0, 0, -2147483648, 2147483647, 0), (1, 3, 0, -2147483648, 2147483647, 0), (2, 0, 7, 1, 0, 0)], 0, 0), (2, [(22, 10, 20, 0)]))]
def kd_X6_allMissed_f03dbc_3 : List (Nat × sf_D × sf_M) := [(31, ([(1, 14, 0), (1, 7, 0), (0, 0, 0), (0, 0, 0)], [(0, 0, 0)], [(1, 7, 0, -2147483648, 2147483647, 0), (1, 10, 0, 0, 19, 0), (1, 0, 0, -2147483648, 2147483647, 0)], 0, 0), (1, [(22, 10, 20, 0)])),
  (32, ([(1, 14, 0), (1, 7, 0), (0, 0, 0), (0, 0, 0)], [], [(1, 7, 0, -2147483648, 2147483647, 0), (1, 10, 0, 0, 19, 0)], 0, 0), (0, [(22, 10, 20, 0)])),
  (35, ([(1, 14, 0), (1, 7, 0), (0, 0, 0), (0, 0, 0)], [], [(1, 7, 0, -2147483648, 2147483647, 0), (1, 10, 0, 1, 20, 0)], 0, 0), (19, [(22, 10, 20, 0)])),
  (38, ([(1, 14, 0), (1, 7, 0), (0, 0, 0), (0, 0, 0)], [], [(1, 7, 0, -2147483648, 2147483647, 0), (1, 10, 0, 0, 20, 0)], 0, 0), (1, [])),
  (39, ([(1, 14, 0), (1, 7, 0), (0, 0, 0), (0, 0, 0)], [(0, 0, 0)], [(1, 7, 0, -2147483648, 2147483647, 0), (1, 10, 0, 0, 20, 0), (1, 0, 0, -2147483648, 2147483647, 0), (2, 0, 7, 1, 0, 0)], 0, 0), (0, []))]
def kd_X6_allMissed_f03dbc : List (Nat × sf_D × sf_M) := kd_X6_allMissed_f03dbc_0 ++ (kd_X6_allMissed_f03dbc_1 ++ (kd_X6_allMissed_f03dbc_2 ++ (kd_X6_allMissed_f03dbc_3)))
set_option maxRecDepth 100000 in
theorem kt_X6_allMissed_f03dbc : sf_chk [kq_X6_isFelt_3811ce] kq_X6_allMissed_f03dbc 4 kc_X6_allMissed_f03dbc kd_X6_allMissed_f03dbc = true := by decide +kernel
set_option maxRecDepth 100000 in
theorem kl_X6_allMissed_f03dbc : (kc_X6_allMissed_f03dbc).map (fun c => (c.1, sf_den ([Z_X6_isFelt] : List sf_X) c.2)) = L_X6_allMissed Z_X6_isFelt := rfl
theorem ct_X6_allMissed_f03dbc : sf_ct kq_X6_allMissed_f03dbc Z_X6_allMissed := by
  have h := sf_meth (K := [kq_X6_isFelt_3811ce]) (E := [Z_X6_isFelt]) (k := kq_X6_allMissed_f03dbc) (nL := 4) (C := kc_X6_allMissed_f03dbc) (D := kd_X6_allMissed_f03dbc) (fun m k hk => match m, hk with
    | 0, hk => (Option.some.inj hk) ▸ ct_X6_isFelt_3811ce
    | _ + 1, hk => (by cases hk)) kt_X6_allMissed_f03dbc
  rw [kl_X6_allMissed_f03dbc] at h
  exact h
def kq_X6_makeAndEat_f03dbc : sf_Q := ([(1, 14, 0), (1, 7, 0)], [], none, [], [(163, 0, 11), (165, 0, 11)])
def kc_X6_makeAndEat_f03dbc : List (Nat × sf_I) := [(0, 0, [1, 0]),
  (1, 5, [2, 2]),
  (2, 2, [3, 2]),
  (3, 0, [4, 2]),
  (4, 4, [5, 1]),
  (5, 23, [8, 7, 8]),
  (8, 9, [9, 2]),
  (9, 21, [12, 55, 5]),
  (12, 4, [13, 1]),
  (13, 2, [14, 2]),
  (14, 4, [15, 0]),
  (15, 23, [18, 6, 0]),
  (18, 2, [19, 2]),
  (19, 25, [20, 1]),
  (20, 32, [23, 0, 3, 7, 0, 0, 0, 0]),
  (23, 5, [24, 3]),
  (24, 2, [25, 3]),
  (25, 20, [28, 38, 5]),
  (28, 4, [29, 0]),
  (29, 23, [32, 6, 2]),
  (32, 2, [33, 2]),
  (33, 18, [34]),
  (34, 25, [35, 1]),
  (35, 2, [36, 3]),
  (36, 9, [37, 1]),
  (37, 28, [38, 1]),
  (38, 4, [39, 0]),
  (39, 23, [42, 6, 0]),
  (42, 2, [43, 2]),
  (43, 0, [44, 0]),
  (44, 2, [45, 3]),
  (45, 33, [48, 0, 0, 0]),
  (48, 28, [49, 1]),
  (49, 8, [52, 2, 1]),
  (52, 22, [2]),
  (55, 37, [0, 0])]
def kd_X6_makeAndEat_f03dbc_0 : List (Nat × sf_D × sf_M) := [(0, ([(1, 14, 0), (1, 7, 0), (8, 0, 0), (8, 0, 0)], [], [], 0, 0), (453, [])),
  (1, ([(1, 14, 0), (1, 7, 0), (8, 0, 0), (8, 0, 0)], [(0, 0, 0)], [(1, 0, 0, 0, 0, 0)], 0, 0), (452, [])),
  (2, ([(1, 14, 0), (1, 7, 0), (0, 0, 0), (8, 0, 0)], [], [(1, 7, 0, 0, 12, 0)], 0, 0), (31, [(35, 7, 12, 0)])),
  (3, ([(1, 14, 0), (1, 7, 0), (0, 0, 0), (8, 0, 0)], [(0, 0, 0)], [(1, 7, 0, 0, 12, 0), (1, 0, 0, 0, 12, 0), (2, 0, 7, 1, 0, 0)], 0, 0), (30, [(35, 7, 12, 0)])),
  (4, ([(1, 14, 0), (1, 7, 0), (0, 0, 0), (8, 0, 0)], [(0, 0, 0), (0, 0, 0)], [(1, 7, 0, 0, 12, 0), (1, 0, 0, 0, 12, 0), (1, 3, 0, 2, 2, 0), (2, 0, 7, 1, 0, 0)], 0, 0), (29, [(35, 7, 12, 0)])),
  (5, ([(1, 14, 0), (1, 7, 0), (0, 0, 0), (8, 0, 0)], [(1, 7, 0), (0, 0, 0), (0, 0, 0)], [(1, 7, 0, 0, 12, 0), (1, 0, 0, 0, 12, 0), (1, 3, 0, 2, 2, 0), (2, 0, 7, 1, 0, 0)], 0, 0), (28, [(35, 7, 12, 0)])),
  (8, ([(1, 14, 0), (1, 7, 0), (0, 0, 0), (8, 0, 0)], [(0, 0, 6), (0, 0, 0), (0, 0, 0)], [(1, 7, 0, 0, 12, 0), (1, 0, 0, 0, 12, 0), (1, 3, 0, 2, 2, 0), (1, 6, 0, 0, 6, 0), (2, 0, 7, 1, 0, 0)], 0, 0), (27, [(35, 7, 12, 0)])),
  (9, ([(1, 14, 0), (1, 7, 0), (0, 0, 0), (8, 0, 0)], [(0, 0, 0), (0, 0, 0)], [(1, 7, 0, 0, 12, 0), (1, 0, 0, 0, 12, 0), (1, 3, 0, 0, 12, 0), (2, 0, 7, 1, 0, 0)], 0, 0), (26, [(35, 7, 12, 0)]))]
def kd_X6_makeAndEat_f03dbc_1 : List (Nat × sf_D × sf_M) := [(12, ([(1, 14, 0), (1, 7, 0), (0, 0, 0), (8, 0, 0)], [], [(1, 7, 0, 0, 11, 0)], 0, 0), (25, [(35, 7, 12, 0)])),
  (13, ([(1, 14, 0), (1, 7, 0), (0, 0, 0), (8, 0, 0)], [(1, 7, 0)], [(1, 7, 0, 0, 11, 0)], 0, 0), (24, [(35, 7, 12, 0)])),
  (14, ([(1, 14, 0), (1, 7, 0), (0, 0, 0), (8, 0, 0)], [(0, 0, 0), (1, 7, 0)], [(1, 7, 0, 0, 11, 0), (1, 3, 0, 0, 11, 0), (2, 3, 7, 1, 0, 0)], 0, 0), (23, [(35, 7, 12, 0)])),
  (15, ([(1, 14, 0), (1, 7, 0), (0, 0, 0), (8, 0, 0)], [(1, 14, 0), (0, 0, 0), (1, 7, 0)], [(1, 7, 0, 0, 11, 0), (1, 3, 0, 0, 11, 0), (2, 3, 7, 1, 0, 0)], 0, 0), (22, [(35, 7, 12, 0)])),
  (18, ([(1, 14, 0), (1, 7, 0), (0, 0, 0), (8, 0, 0)], [(1, 163, 0), (0, 0, 0), (1, 7, 0)], [(1, 7, 0, 0, 11, 0), (1, 3, 0, 0, 11, 0), (2, 3, 7, 1, 0, 0)], 0, 0), (21, [(35, 7, 12, 0)])),
  (19, ([(1, 14, 0), (1, 7, 0), (0, 0, 0), (8, 0, 0)], [(0, 0, 0), (1, 163, 0), (0, 0, 0), (1, 7, 0)], [(1, 7, 0, 0, 11, 0), (1, 3, 0, 0, 11, 0), (1, 9, 0, 0, 11, 0), (2, 3, 7, 1, 0, 0), (2, 9, 7, 1, 0, 0)], 0, 0), (20, [(35, 7, 12, 0)])),
  (20, ([(1, 14, 0), (1, 7, 0), (0, 0, 0), (8, 0, 0)], [(0, 0, 0), (0, 0, 0), (1, 7, 0)], [(1, 7, 0, 0, 11, 0), (1, 3, 0, 0, 11, 0), (1, 6, 0, 0, 999, 0), (2, 3, 7, 1, 0, 0)], 0, 0), (19, [(35, 7, 12, 0)])),
  (23, ([(1, 14, 0), (1, 7, 0), (0, 0, 0), (8, 0, 0)], [(0, 0, 0)], [(1, 7, 0, 0, 11, 0), (1, 0, 0, -250, 999, 0)], 0, 0), (18, [(35, 7, 12, 0)]))]
def kd_X6_makeAndEat_f03dbc_2 : List (Nat × sf_D × sf_M) := [(24, ([(1, 14, 0), (1, 7, 0), (0, 0, 0), (0, 0, 0)], [], [(1, 7, 0, 0, 11, 0), (1, 10, 0, -250, 999, 0)], 0, 0), (17, [(35, 7, 12, 0)])),
  (25, ([(1, 14, 0), (1, 7, 0), (0, 0, 0), (0, 0, 0)], [(0, 0, 0)], [(1, 7, 0, 0, 11, 0), (1, 10, 0, -250, 999, 0), (1, 0, 0, -250, 999, 0), (2, 0, 10, 1, 0, 0)], 0, 0), (16, [(35, 7, 12, 0)])),
  (28, ([(1, 14, 0), (1, 7, 0), (0, 0, 0), (0, 0, 0)], [], [(1, 7, 0, 0, 11, 0), (1, 10, 0, -250, -1, 0)], 0, 0), (15, [(35, 7, 12, 0)])),
  (29, ([(1, 14, 0), (1, 7, 0), (0, 0, 0), (0, 0, 0)], [(1, 14, 0)], [(1, 7, 0, 0, 11, 0), (1, 10, 0, -250, -1, 0)], 0, 0), (14, [(35, 7, 12, 0)])),
  (32, ([(1, 14, 0), (1, 7, 0), (0, 0, 0), (0, 0, 0)], [(1, 165, 0)], [(1, 7, 0, 0, 11, 0), (1, 10, 0, -250, -1, 0)], 0, 0), (13, [(35, 7, 12, 0)])),
  (33, ([(1, 14, 0), (1, 7, 0), (0, 0, 0), (0, 0, 0)], [(0, 0, 0), (1, 165, 0)], [(1, 7, 0, 0, 11, 0), (1, 10, 0, -250, -1, 0), (1, 3, 0, 0, 11, 0), (2, 3, 7, 1, 0, 0)], 0, 0), (12, [(35, 7, 12, 0)])),
  (34, ([(1, 14, 0), (1, 7, 0), (0, 0, 0), (0, 0, 0)], [(0, 0, 0), (1, 165, 0), (0, 0, 0), (1, 165, 0)], [(1, 7, 0, 0, 11, 0), (1, 10, 0, -250, -1, 0), (1, 3, 0, 0, 11, 0), (1, 9, 0, 0, 11, 0), (2, 3, 7, 1, 0, 0), (2, 9, 3, 1, 0, 0)], 0, 0), (11, [(35, 7, 12, 0)]))]
def kd_X6_makeAndEat_f03dbc_3 : List (Nat × sf_D × sf_M) := [(35, ([(1, 14, 0), (1, 7, 0), (0, 0, 0), (0, 0, 0)], [(0, 0, 0), (0, 0, 0), (1, 165, 0)], [(1, 7, 0, 0, 11, 0), (1, 10, 0, -250, -1, 0), (1, 3, 0, 0, 11, 0), (1, 6, 0, -2147483648, 2147483647, 0), (2, 3, 7, 1, 0, 0)], 0, 0), (10, [(35, 7, 12, 0)])),
  (36, ([(1, 14, 0), (1, 7, 0), (0, 0, 0), (0, 0, 0)], [(0, 0, 0), (0, 0, 0), (0, 0, 0), (1, 165, 0)], [(1, 7, 0, 0, 11, 0), (1, 10, 0, -250, -1, 0), (1, 3, 0, 0, 11, 0), (1, 6, 0, -2147483648, 2147483647, 0), (1, 9, 0, -250, -1, 0), (2, 3, 7, 1, 0, 0), (2, 9, 10, 1, 0, 0)], 0, 0), (9, [(35, 7, 12, 0)])),
  (37, ([(1, 14, 0), (1, 7, 0), (0, 0, 0), (0, 0, 0)], [(0, 0, 0), (0, 0, 0), (1, 165, 0)], [(1, 7, 0, 0, 11, 0), (1, 10, 0, -250, -1, 0), (1, 3, 0, 0, 11, 0), (1, 6, 0, -2147483648, 2147483647, 0), (2, 3, 7, 1, 0, 0)], 0, 0), (8, [(35, 7, 12, 0)])),
  (38, ([(1, 14, 0), (1, 7, 0), (0, 0, 0), (0, 0, 0)], [], [(1, 7, 0, 0, 11, 0), (1, 10, 0, -250, 999, 0)], 0, 0), (7, [(35, 7, 12, 0)])),
  (39, ([(1, 14, 0), (1, 7, 0), (0, 0, 0), (0, 0, 0)], [(1, 14, 0)], [(1, 7, 0, 0, 11, 0), (1, 10, 0, -250, 999, 0)], 0, 0), (6, [(35, 7, 12, 0)])),
  (42, ([(1, 14, 0), (1, 7, 0), (0, 0, 0), (0, 0, 0)], [(1, 163, 0)], [(1, 7, 0, 0, 11, 0), (1, 10, 0, -250, 999, 0)], 0, 0), (5, [(35, 7, 12, 0)]))]
def kd_X6_makeAndEat_f03dbc_4 : List (Nat × sf_D × sf_M) := [(43, ([(1, 14, 0), (1, 7, 0), (0, 0, 0), (0, 0, 0)], [(0, 0, 0), (1, 163, 0)], [(1, 7, 0, 0, 11, 0), (1, 10, 0, -250, 999, 0), (1, 3, 0, 0, 11, 0), (2, 3, 7, 1, 0, 0)], 0, 0), (4, [(35, 7, 12, 0)])),
  (44, ([(1, 14, 0), (1, 7, 0), (0, 0, 0), (0, 0, 0)], [(0, 0, 0), (0, 0, 0), (1, 163, 0)], [(1, 7, 0, 0, 11, 0), (1, 10, 0, -250, 999, 0), (1, 3, 0, 0, 11, 0), (1, 6, 0, 0, 0, 0), (2, 3, 7, 1, 0, 0)], 0, 0), (3, [(35, 7, 12, 0)])),
  (45, ([(1, 14, 0), (1, 7, 0), (0, 0, 0), (0, 0, 0)], [(0, 0, 0), (0, 0, 0), (0, 0, 0), (1, 163, 0)], [(1, 7, 0, 0, 11, 0), (1, 10, 0, -250, 999, 0), (1, 3, 0, 0, 11, 0), (1, 6, 0, 0, 0, 0), (1, 9, 0, -250, 999, 0), (2, 3, 7, 1, 0, 0), (2, 9, 10, 1, 0, 0)], 0, 0), (2, [(35, 7, 12, 0)])),
  (48, ([(1, 14, 0), (1, 7, 0), (0, 0, 0), (0, 0, 0)], [(0, 0, 0), (0, 0, 0), (1, 163, 0)], [(1, 7, 0, 0, 11, 0), (1, 10, 0, -250, 999, 0), (1, 3, 0, 0, 11, 0), (1, 6, 0, 0, 999, 0), (2, 3, 7, 1, 0, 0)], 0, 0), (1, [(35, 7, 12, 0)])),
  (49, ([(1, 14, 0), (1, 7, 0), (0, 0, 0), (0, 0, 0)], [], [(1, 7, 0, 0, 11, 0), (1, 10, 0, -250, 999, 0)], 0, 0), (0, [(35, 7, 12, 0)])),
  (52, ([(1, 14, 0), (1, 7, 0), (0, 0, 0), (0, 0, 0)], [], [(1, 10, 0, -250, 999, 0), (1, 7, 0, 1, 12, 0)], 0, 0), (32, [(35, 7, 12, 0)])),
  (55, ([(1, 14, 0), (1, 7, 0), (0, 0, 0), (8, 0, 0)], [], [(1, 7, 0, 0, 12, 0)], 0, 0), (0, []))]
def kd_X6_makeAndEat_f03dbc : List (Nat × sf_D × sf_M) := kd_X6_makeAndEat_f03dbc_0 ++ (kd_X6_makeAndEat_f03dbc_1 ++ (kd_X6_makeAndEat_f03dbc_2 ++ (kd_X6_makeAndEat_f03dbc_3 ++ (kd_X6_makeAndEat_f03dbc_4))))
set_option maxRecDepth 100000 in
theorem kt_X6_makeAndEat_f03dbc : sf_chk [kq_X7_leftAfter_746df8] kq_X6_makeAndEat_f03dbc 4 kc_X6_makeAndEat_f03dbc kd_X6_makeAndEat_f03dbc = true := by decide +kernel
set_option maxRecDepth 100000 in
theorem kl_X6_makeAndEat_f03dbc : (kc_X6_makeAndEat_f03dbc).map (fun c => (c.1, sf_den ([Z_X7_leftAfter] : List sf_X) c.2)) = L_X6_makeAndEat Z_X7_leftAfter := rfl
theorem ct_X6_makeAndEat_f03dbc : sf_ct kq_X6_makeAndEat_f03dbc Z_X6_makeAndEat := by
  have h := sf_meth (K := [kq_X7_leftAfter_746df8]) (E := [Z_X7_leftAfter]) (k := kq_X6_makeAndEat_f03dbc) (nL := 4) (C := kc_X6_makeAndEat_f03dbc) (D := kd_X6_makeAndEat_f03dbc) (fun m k hk => match m, hk with
    | 0, hk => (Option.some.inj hk) ▸ ct_X7_leftAfter_746df8
    | _ + 1, hk => (by cases hk)) kt_X6_makeAndEat_f03dbc
  rw [kl_X6_makeAndEat_f03dbc] at h
  exact h
def kq_X6_countApart_f03dbc : sf_Q := ([(1, 14, 0), (1, 7, 0)], [], none, [], [(169, 8, 62)])
def kc_X6_countApart_f03dbc : List (Nat × sf_I) := [(0, 0, [1, 0]),
  (1, 5, [2, 2]),
  (2, 2, [3, 2]),
  (3, 4, [4, 1]),
  (4, 23, [7, 7, 9]),
  (7, 21, [10, 74, 5]),
  (10, 0, [11, 0]),
  (11, 5, [12, 3]),
  (12, 2, [13, 3]),
  (13, 2, [14, 2]),
  (14, 21, [17, 68, 5]),
  (17, 2, [18, 2]),
  (18, 0, [20, 8]),
  (20, 9, [21, 2]),
  (21, 2, [22, 3]),
  (22, 9, [23, 0]),
  (23, 5, [25, 4]),
  (25, 4, [26, 0]),
  (26, 23, [29, 6, 4]),
  (29, 2, [30, 2]),
  (30, 25, [31, 1]),
  (31, 4, [32, 0]),
  (32, 23, [35, 6, 4]),
  (35, 2, [36, 3]),
  (36, 25, [37, 1]),
  (37, 21, [40, 51, 1]),
  (40, 4, [41, 0]),
  (41, 23, [44, 6, 6]),
  (44, 2, [46, 4]),
  (46, 0, [47, 0]),
  (47, 28, [48, 1]),
  (48, 22, [62]),
  (51, 4, [52, 0]),
  (52, 23, [55, 6, 6]),
  (55, 2, [57, 4]),
  (57, 18, [58]),
  (58, 25, [59, 1]),
  (59, 0, [60, 1]),
  (60, 9, [61, 0]),
  (61, 28, [62, 1]),
  (62, 8, [65, 3, 1]),
  (65, 22, [12]),
  (68, 8, [71, 2, 1]),
  (71, 22, [2]),
  (74, 37, [0, 0])]
def kd_X6_countApart_f03dbc_0 : List (Nat × sf_D × sf_M) := [(0, ([(1, 14, 0), (1, 7, 0), (8, 0, 0), (8, 0, 0), (8, 0, 0)], [], [], 0, 0), (2654, [])),
  (1, ([(1, 14, 0), (1, 7, 0), (8, 0, 0), (8, 0, 0), (8, 0, 0)], [(0, 0, 0)], [(1, 0, 0, 0, 0, 0)], 0, 0), (2653, [])),
  (2, ([(1, 14, 0), (1, 7, 0), (0, 0, 0), (8, 0, 0), (8, 0, 0)], [], [(1, 7, 0, 0, 8, 0)], 0, 0), (284, [(296, 7, 8, 0)])),
  (3, ([(1, 14, 0), (1, 7, 0), (0, 0, 0), (8, 0, 0), (8, 0, 0)], [(0, 0, 0)], [(1, 7, 0, 0, 8, 0), (1, 0, 0, 0, 8, 0), (2, 0, 7, 1, 0, 0)], 0, 0), (283, [(296, 7, 8, 0)])),
  (4, ([(1, 14, 0), (1, 7, 0), (0, 0, 0), (8, 0, 0), (8, 0, 0)], [(1, 7, 0), (0, 0, 0)], [(1, 7, 0, 0, 8, 0), (1, 0, 0, 0, 8, 0), (2, 0, 7, 1, 0, 0)], 0, 0), (282, [(296, 7, 8, 0)])),
  (7, ([(1, 14, 0), (1, 7, 0), (0, 0, 0), (8, 0, 0), (8, 0, 0)], [(0, 0, 8), (0, 0, 0)], [(1, 7, 0, 0, 8, 0), (1, 0, 0, 0, 8, 0), (1, 3, 0, 0, 8, 0), (2, 0, 7, 1, 0, 0)], 0, 0), (281, [(296, 7, 8, 0)])),
  (10, ([(1, 14, 0), (1, 7, 0), (0, 0, 0), (8, 0, 0), (8, 0, 0)], [], [(1, 7, 0, 0, 7, 0)], 0, 0), (280, [(296, 7, 8, 0)])),
  (11, ([(1, 14, 0), (1, 7, 0), (0, 0, 0), (8, 0, 0), (8, 0, 0)], [(0, 0, 0)], [(1, 7, 0, 0, 7, 0), (1, 0, 0, 0, 0, 0)], 0, 0), (279, [(296, 7, 8, 0)])),
  (12, ([(1, 14, 0), (1, 7, 0), (0, 0, 0), (0, 0, 0), (8, 0, 0)], [], [(1, 7, 0, 0, 7, 0), (1, 10, 0, 0, 7, 0), (3, 10, 7, 1, 7, 0)], 0, 0), (26, [(296, 7, 8, 0), (36, 10, 7, 0)]))]
def kd_X6_countApart_f03dbc_1 : List (Nat × sf_D × sf_M) := [(13, ([(1, 14, 0), (1, 7, 0), (0, 0, 0), (0, 0, 0), (8, 0, 0)], [(0, 0, 0)], [(1, 7, 0, 0, 7, 0), (1, 10, 0, 0, 7, 0), (1, 0, 0, 0, 7, 0), (3, 10, 7, 1, 7, 0), (2, 0, 10, 1, 0, 0)], 0, 0), (25, [(296, 7, 8, 0), (36, 10, 7, 0)])),
  (14, ([(1, 14, 0), (1, 7, 0), (0, 0, 0), (0, 0, 0), (8, 0, 0)], [(0, 0, 0), (0, 0, 0)], [(1, 7, 0, 0, 7, 0), (1, 10, 0, 0, 7, 0), (1, 0, 0, 0, 7, 0), (1, 3, 0, 0, 7, 0), (3, 10, 7, 1, 7, 0), (2, 0, 10, 1, 0, 0), (2, 3, 7, 1, 0, 0)], 0, 0), (24, [(296, 7, 8, 0), (36, 10, 7, 0)])),
  (17, ([(1, 14, 0), (1, 7, 0), (0, 0, 0), (0, 0, 0), (8, 0, 0)], [], [(1, 7, 0, 1, 7, 0), (1, 10, 0, 0, 6, 0)], 0, 0), (23, [(296, 7, 8, 0), (36, 10, 7, 0)])),
  (18, ([(1, 14, 0), (1, 7, 0), (0, 0, 0), (0, 0, 0), (8, 0, 0)], [(0, 0, 0)], [(1, 7, 0, 1, 7, 0), (1, 10, 0, 0, 6, 0), (1, 0, 0, 1, 7, 0), (2, 0, 7, 1, 0, 0)], 0, 0), (22, [(296, 7, 8, 0), (36, 10, 7, 0)])),
  (20, ([(1, 14, 0), (1, 7, 0), (0, 0, 0), (0, 0, 0), (8, 0, 0)], [(0, 0, 0), (0, 0, 0)], [(1, 7, 0, 1, 7, 0), (1, 10, 0, 0, 6, 0), (1, 0, 0, 1, 7, 0), (1, 3, 0, 8, 8, 0), (2, 0, 7, 1, 0, 0)], 0, 0), (21, [(296, 7, 8, 0), (36, 10, 7, 0)])),
  (21, ([(1, 14, 0), (1, 7, 0), (0, 0, 0), (0, 0, 0), (8, 0, 0)], [(0, 0, 0)], [(1, 7, 0, 1, 7, 0), (1, 10, 0, 0, 6, 0), (1, 0, 0, 8, 56, 0), (2, 0, 7, 8, 0, 0)], 0, 0), (20, [(296, 7, 8, 0), (36, 10, 7, 0)]))]
def kd_X6_countApart_f03dbc_2 : List (Nat × sf_D × sf_M) := [(22, ([(1, 14, 0), (1, 7, 0), (0, 0, 0), (0, 0, 0), (8, 0, 0)], [(0, 0, 0), (0, 0, 0)], [(1, 7, 0, 1, 7, 0), (1, 10, 0, 0, 6, 0), (1, 0, 0, 8, 56, 0), (1, 3, 0, 0, 6, 0), (2, 0, 7, 8, 0, 0), (2, 3, 10, 1, 0, 0)], 0, 0), (19, [(296, 7, 8, 0), (36, 10, 7, 0)])),
  (23, ([(1, 14, 0), (1, 7, 0), (0, 0, 0), (0, 0, 0), (8, 0, 0)], [(0, 0, 0)], [(1, 7, 0, 1, 7, 0), (1, 10, 0, 0, 6, 0), (1, 0, 0, 8, 62, 0)], 0, 0), (18, [(296, 7, 8, 0), (36, 10, 7, 0)])),
  (25, ([(1, 14, 0), (1, 7, 0), (0, 0, 0), (0, 0, 0), (0, 0, 0)], [], [(1, 7, 0, 1, 7, 0), (1, 10, 0, 0, 6, 0), (1, 13, 0, 8, 62, 0)], 0, 0), (17, [(296, 7, 8, 0), (36, 10, 7, 0)])),
  (26, ([(1, 14, 0), (1, 7, 0), (0, 0, 0), (0, 0, 0), (0, 0, 0)], [(1, 14, 0)], [(1, 7, 0, 1, 7, 0), (1, 10, 0, 0, 6, 0), (1, 13, 0, 8, 62, 0)], 0, 0), (16, [(296, 7, 8, 0), (36, 10, 7, 0)])),
  (29, ([(1, 14, 0), (1, 7, 0), (0, 0, 0), (0, 0, 0), (0, 0, 0)], [(1, 167, 0)], [(1, 7, 0, 1, 7, 0), (1, 10, 0, 0, 6, 0), (1, 13, 0, 8, 62, 0)], 0, 0), (15, [(296, 7, 8, 0), (36, 10, 7, 0)])),
  (30, ([(1, 14, 0), (1, 7, 0), (0, 0, 0), (0, 0, 0), (0, 0, 0)], [(0, 0, 0), (1, 167, 0)], [(1, 7, 0, 1, 7, 0), (1, 10, 0, 0, 6, 0), (1, 13, 0, 8, 62, 0), (1, 3, 0, 1, 7, 0), (2, 3, 7, 1, 0, 0)], 0, 0), (14, [(296, 7, 8, 0), (36, 10, 7, 0)]))]
def kd_X6_countApart_f03dbc_3 : List (Nat × sf_D × sf_M) := [(31, ([(1, 14, 0), (1, 7, 0), (0, 0, 0), (0, 0, 0), (0, 0, 0)], [(0, 0, 0)], [(1, 7, 0, 1, 7, 0), (1, 10, 0, 0, 6, 0), (1, 13, 0, 8, 62, 0), (1, 0, 0, -2147483648, 2147483647, 0)], 0, 0), (13, [(296, 7, 8, 0), (36, 10, 7, 0)])),
  (32, ([(1, 14, 0), (1, 7, 0), (0, 0, 0), (0, 0, 0), (0, 0, 0)], [(1, 14, 0), (0, 0, 0)], [(1, 7, 0, 1, 7, 0), (1, 10, 0, 0, 6, 0), (1, 13, 0, 8, 62, 0), (1, 0, 0, -2147483648, 2147483647, 0)], 0, 0), (12, [(296, 7, 8, 0), (36, 10, 7, 0)])),
  (35, ([(1, 14, 0), (1, 7, 0), (0, 0, 0), (0, 0, 0), (0, 0, 0)], [(1, 167, 0), (0, 0, 0)], [(1, 7, 0, 1, 7, 0), (1, 10, 0, 0, 6, 0), (1, 13, 0, 8, 62, 0), (1, 0, 0, -2147483648, 2147483647, 0)], 0, 0), (11, [(296, 7, 8, 0), (36, 10, 7, 0)])),
  (36, ([(1, 14, 0), (1, 7, 0), (0, 0, 0), (0, 0, 0), (0, 0, 0)], [(0, 0, 0), (1, 167, 0), (0, 0, 0)], [(1, 7, 0, 1, 7, 0), (1, 10, 0, 0, 6, 0), (1, 13, 0, 8, 62, 0), (1, 0, 0, -2147483648, 2147483647, 0), (1, 6, 0, 0, 6, 0), (2, 6, 10, 1, 0, 0)], 0, 0), (10, [(296, 7, 8, 0), (36, 10, 7, 0)])),
  (37, ([(1, 14, 0), (1, 7, 0), (0, 0, 0), (0, 0, 0), (0, 0, 0)], [(0, 0, 0), (0, 0, 0)], [(1, 7, 0, 1, 7, 0), (1, 10, 0, 0, 6, 0), (1, 13, 0, 8, 62, 0), (1, 0, 0, -2147483648, 2147483647, 0), (1, 3, 0, -2147483648, 2147483647, 0)], 0, 0), (9, [(296, 7, 8, 0), (36, 10, 7, 0)])),
  (40, ([(1, 14, 0), (1, 7, 0), (0, 0, 0), (0, 0, 0), (0, 0, 0)], [], [(1, 7, 0, 1, 7, 0), (1, 10, 0, 0, 6, 0), (1, 13, 0, 8, 62, 0)], 0, 0), (6, [(296, 7, 8, 0), (36, 10, 7, 0)]))]
def kd_X6_countApart_f03dbc_4 : List (Nat × sf_D × sf_M) := [(41, ([(1, 14, 0), (1, 7, 0), (0, 0, 0), (0, 0, 0), (0, 0, 0)], [(1, 14, 0)], [(1, 7, 0, 1, 7, 0), (1, 10, 0, 0, 6, 0), (1, 13, 0, 8, 62, 0)], 0, 0), (5, [(296, 7, 8, 0), (36, 10, 7, 0)])),
  (44, ([(1, 14, 0), (1, 7, 0), (0, 0, 0), (0, 0, 0), (0, 0, 0)], [(1, 169, 0)], [(1, 7, 0, 1, 7, 0), (1, 10, 0, 0, 6, 0), (1, 13, 0, 8, 62, 0)], 0, 0), (4, [(296, 7, 8, 0), (36, 10, 7, 0)])),
  (46, ([(1, 14, 0), (1, 7, 0), (0, 0, 0), (0, 0, 0), (0, 0, 0)], [(0, 0, 0), (1, 169, 0)], [(1, 7, 0, 1, 7, 0), (1, 10, 0, 0, 6, 0), (1, 13, 0, 8, 62, 0), (1, 3, 0, 8, 62, 0), (2, 3, 13, 1, 0, 0)], 0, 0), (3, [(296, 7, 8, 0), (36, 10, 7, 0)])),
  (47, ([(1, 14, 0), (1, 7, 0), (0, 0, 0), (0, 0, 0), (0, 0, 0)], [(0, 0, 0), (0, 0, 0), (1, 169, 0)], [(1, 7, 0, 1, 7, 0), (1, 10, 0, 0, 6, 0), (1, 13, 0, 8, 62, 0), (1, 3, 0, 8, 62, 0), (1, 6, 0, 0, 0, 0), (2, 3, 13, 1, 0, 0)], 0, 0), (2, [(296, 7, 8, 0), (36, 10, 7, 0)])),
  (48, ([(1, 14, 0), (1, 7, 0), (0, 0, 0), (0, 0, 0), (0, 0, 0)], [], [(1, 7, 0, 1, 7, 0), (1, 10, 0, 0, 6, 0), (1, 13, 0, 8, 62, 0)], 0, 0), (1, [(296, 7, 8, 0), (36, 10, 7, 0)])),
  (51, ([(1, 14, 0), (1, 7, 0), (0, 0, 0), (0, 0, 0), (0, 0, 0)], [], [(1, 7, 0, 1, 7, 0), (1, 10, 0, 0, 6, 0), (1, 13, 0, 8, 62, 0)], 0, 0), (8, [(296, 7, 8, 0), (36, 10, 7, 0)])),
  (52, ([(1, 14, 0), (1, 7, 0), (0, 0, 0), (0, 0, 0), (0, 0, 0)], [(1, 14, 0)], [(1, 7, 0, 1, 7, 0), (1, 10, 0, 0, 6, 0), (1, 13, 0, 8, 62, 0)], 0, 0), (7, [(296, 7, 8, 0), (36, 10, 7, 0)]))]
def kd_X6_countApart_f03dbc_5 : List (Nat × sf_D × sf_M) := [(55, ([(1, 14, 0), (1, 7, 0), (0, 0, 0), (0, 0, 0), (0, 0, 0)], [(1, 169, 0)], [(1, 7, 0, 1, 7, 0), (1, 10, 0, 0, 6, 0), (1, 13, 0, 8, 62, 0)], 0, 0), (6, [(296, 7, 8, 0), (36, 10, 7, 0)])),
  (57, ([(1, 14, 0), (1, 7, 0), (0, 0, 0), (0, 0, 0), (0, 0, 0)], [(0, 0, 0), (1, 169, 0)], [(1, 7, 0, 1, 7, 0), (1, 10, 0, 0, 6, 0), (1, 13, 0, 8, 62, 0), (1, 3, 0, 8, 62, 0), (2, 3, 13, 1, 0, 0)], 0, 0), (5, [(296, 7, 8, 0), (36, 10, 7, 0)])),
  (58, ([(1, 14, 0), (1, 7, 0), (0, 0, 0), (0, 0, 0), (0, 0, 0)], [(0, 0, 0), (1, 169, 0), (0, 0, 0), (1, 169, 0)], [(1, 7, 0, 1, 7, 0), (1, 10, 0, 0, 6, 0), (1, 13, 0, 8, 62, 0), (1, 3, 0, 8, 62, 0), (1, 9, 0, 8, 62, 0), (2, 3, 13, 1, 0, 0), (2, 9, 3, 1, 0, 0)], 0, 0), (4, [(296, 7, 8, 0), (36, 10, 7, 0)])),
  (59, ([(1, 14, 0), (1, 7, 0), (0, 0, 0), (0, 0, 0), (0, 0, 0)], [(0, 0, 0), (0, 0, 0), (1, 169, 0)], [(1, 7, 0, 1, 7, 0), (1, 10, 0, 0, 6, 0), (1, 13, 0, 8, 62, 0), (1, 3, 0, 8, 62, 0), (1, 6, 0, -2147483648, 2147483647, 0), (2, 3, 13, 1, 0, 0)], 0, 0), (3, [(296, 7, 8, 0), (36, 10, 7, 0)])),
  (60, ([(1, 14, 0), (1, 7, 0), (0, 0, 0), (0, 0, 0), (0, 0, 0)], [(0, 0, 0), (0, 0, 0), (0, 0, 0), (1, 169, 0)], [(1, 7, 0, 1, 7, 0), (1, 10, 0, 0, 6, 0), (1, 13, 0, 8, 62, 0), (1, 3, 0, 8, 62, 0), (1, 6, 0, -2147483648, 2147483647, 0), (1, 9, 0, 1, 1, 0), (2, 3, 13, 1, 0, 0)], 0, 0), (2, [(296, 7, 8, 0), (36, 10, 7, 0)]))]
def kd_X6_countApart_f03dbc_6 : List (Nat × sf_D × sf_M) := [(61, ([(1, 14, 0), (1, 7, 0), (0, 0, 0), (0, 0, 0), (0, 0, 0)], [(0, 0, 0), (0, 0, 0), (1, 169, 0)], [(1, 7, 0, 1, 7, 0), (1, 10, 0, 0, 6, 0), (1, 13, 0, 8, 62, 0), (1, 3, 0, 8, 62, 0), (1, 6, 0, -2147483648, 2147483647, 0), (2, 3, 13, 1, 0, 0)], 0, 0), (1, [(296, 7, 8, 0), (36, 10, 7, 0)])),
  (62, ([(1, 14, 0), (1, 7, 0), (0, 0, 0), (0, 0, 0), (0, 0, 0)], [], [(1, 7, 0, 1, 7, 0), (1, 10, 0, 0, 6, 0), (1, 13, 0, 8, 62, 0)], 0, 0), (0, [(296, 7, 8, 0), (36, 10, 7, 0)])),
  (65, ([(1, 14, 0), (1, 7, 0), (0, 0, 0), (0, 0, 0), (0, 0, 0)], [], [(1, 7, 0, 1, 7, 0), (1, 13, 0, 8, 62, 0), (1, 10, 0, 1, 7, 0)], 0, 0), (27, [(296, 7, 8, 0), (36, 10, 7, 0)])),
  (68, ([(1, 14, 0), (1, 7, 0), (0, 0, 0), (0, 0, 0), (8, 0, 0)], [], [(1, 7, 0, 0, 7, 0), (1, 10, 0, 0, 7, 0)], 0, 0), (0, [(296, 7, 8, 0)])),
  (71, ([(1, 14, 0), (1, 7, 0), (0, 0, 0), (0, 0, 0), (8, 0, 0)], [], [(1, 10, 0, 0, 7, 0), (1, 7, 0, 1, 8, 0)], 0, 0), (285, [(296, 7, 8, 0)])),
  (74, ([(1, 14, 0), (1, 7, 0), (0, 0, 0), (8, 0, 0), (8, 0, 0)], [], [(1, 7, 0, 0, 8, 0)], 0, 0), (0, []))]
def kd_X6_countApart_f03dbc : List (Nat × sf_D × sf_M) := kd_X6_countApart_f03dbc_0 ++ (kd_X6_countApart_f03dbc_1 ++ (kd_X6_countApart_f03dbc_2 ++ (kd_X6_countApart_f03dbc_3 ++ (kd_X6_countApart_f03dbc_4 ++ (kd_X6_countApart_f03dbc_5 ++ (kd_X6_countApart_f03dbc_6))))))
set_option maxRecDepth 100000 in
theorem kt_X6_countApart_f03dbc : sf_chk [] kq_X6_countApart_f03dbc 5 kc_X6_countApart_f03dbc kd_X6_countApart_f03dbc = true := by decide +kernel
set_option maxRecDepth 100000 in
theorem kl_X6_countApart_f03dbc : (kc_X6_countApart_f03dbc).map (fun c => (c.1, sf_den ([] : List sf_X) c.2)) = L_X6_countApart := rfl
theorem ct_X6_countApart_f03dbc : sf_ct kq_X6_countApart_f03dbc Z_X6_countApart := by
  have h := sf_meth (K := []) (E := []) (k := kq_X6_countApart_f03dbc) (nL := 5) (C := kc_X6_countApart_f03dbc) (D := kd_X6_countApart_f03dbc) (fun m k hk => match m, hk with
    | _ + 0, hk => (by cases hk)) kt_X6_countApart_f03dbc
  rw [kl_X6_countApart_f03dbc] at h
  exact h
def kq_X1_passDays_14 : sf_Q := ([(1, 1, 0), (1, 7, 0), (1, 14, 0), (0, 0, 0)], [], some (0, 0, 0), [(1, 0, 0, -400, 400, 0)], [(1, 2, 3), (14, 7, 9), (100, 0, 5), (101, 0, 5), (163, 0, 11), (165, 0, 11), (166, 0, 11), (167, 0, 7), (168, 0, 7), (169, 0, 63)])
set_option maxRecDepth 100000 in
set_option maxHeartbeats 4000000 in
theorem ct_X1_passDays_14 : sf_ct kq_X1_passDays_14 Z_X1_passDays := by
  intro t hp as H hl hj hpre
  match as, hl with
  | [v0, v1, v2, v3], _ =>
    obtain ⟨a0, rfl, ra0⟩ := bs_aR (hj 0 _ rfl)
    obtain rfl := ra0.eq H (p := 7) rfl
    obtain ⟨a1, rfl, ra1⟩ := bs_aR (hj 1 _ rfl)
    obtain ⟨a2, rfl, ra2⟩ := bs_aR (hj 2 _ rfl)
    obtain rfl := ra2.eq H (p := 28) rfl
    obtain ⟨x3, rfl⟩ := bs_aI (hj 3 _ rfl)
    have rg3 := n_range x3
    clear hpre hj
    have F0 : sf_fr [(1, 2, 3), (14, 7, 9), (100, 0, 5), (101, 0, 5), (163, 0, 11), (165, 0, 11), (166, 0, 11), (167, 0, 7), (168, 0, 7), (169, 0, 63)] t hp t hp := sf_fr_rf
    refine bs_fin (K := kq_X1_passDays_14) (L := (L_X1_passDays Z_X1_plan Z_X1_carry Z_X6_makeAndEat Z_X6_countApart)) (nL := 6) (Nat.le_of_ble_eq_true rfl) ?_
    obtain ⟨Q, hQ⟩ : ∃ Q : ab_O → Prop, Q = (fun o => ∃ t', sf_h t' o.2 ∧ sf_fr (kq_X1_passDays_14).2.2.2.2 t hp t' o.2 ∧ sf_an t' o.2.1 (kq_X1_passDays_14).2.2.1 o.1 ∧ sf_S (sf_v1 o.1 [.ref 7, .ref a1, .ref 28, .int x3] o.2) (kq_X1_passDays_14).2.2.2.1) := ⟨_, rfl⟩
    rw [← hQ]
    refine (show Ev (ab_T (L_X1_passDays Z_X1_plan Z_X1_carry Z_X6_makeAndEat Z_X6_countApart)) 0 ([some (.ref 7), some (.ref a1), some (.ref 28), some (.int x3), none, none], [], (0, 0), hp) Q from ?_)
    obtain ⟨G, hG, lG, uG⟩ := bs_fld (k := 8) H (ra1.fr F0) (by decide) rfl
    obtain ⟨M, hM, lM, uM⟩ := bs_fld (k := 9) H (ra1.fr F0) (by decide) rfl
    refine Ev.step (j := 1) (s' := ([some (.ref 7), some (.ref a1), some (.ref 28), some (.int x3), none, none], [.ref 28], (0, 0), hp)) rfl rfl ?_
    exact by
     refine bs_getI 14 rfl rfl rfl H (bs_R.uq H (g := 14) rfl) (by decide) rfl fun z1 hz1 lz1 gz1 => ?_
     refine Ev.step (j := 6) (s' := ([some (.ref 7), some (.ref a1), some (.ref 28), some (.int x3), some (.int z1), none], [], (0, 0), hp)) rfl rfl ?_
     refine bs_lit (k := 0) rfl rfl fun z2 hz2 => ?_
     refine Ev.step (j := 9) (s' := ([some (.ref 7), some (.ref a1), some (.ref 28), some (.int x3), some (.int z1), some (.int z2)], [], (0, 0), hp)) rfl rfl ?_
     refine bs_loop (ι := Int32 × ab_H × (Nat → Nat)) (fun ⟨k3, hp4, t5⟩ => ([some (.ref 7), some (.ref a1), some (.ref 28), some (.int x3), some (.int z1), some (.int k3)], [], (0, 0), hp4)) (fun ⟨k3, hp4, t5⟩ => (sf_h t5 hp4) ∧ (sf_fr [(1, 2, 3), (14, 7, 9), (100, 0, 5), (101, 0, 5), (163, 0, 11), (165, 0, 11), (166, 0, 11), (167, 0, 7), (168, 0, 7), (169, 0, 63)] t hp t5 hp4) ∧ (0 ≤ k3.toInt) ∧ (k3.toInt ≤ max 0 x3.toInt)) (fun ⟨k3, hp4, t5⟩ => (x3.toInt - k3.toInt).toNat) ?_ (z2, hp, t) ⟨H, F0, (by first | omega | assumption), (by first | omega | assumption)⟩
     rintro ⟨k3, hp4, t5⟩ ⟨Hhp4, Fhp4, i7, i8⟩ ih6
     refine (show Ev _ 9 ([some (.ref 7), some (.ref a1), some (.ref 28), some (.int x3), some (.int z1), some (.int k3)], [], (0, 0), hp4) _ from ?_)
     refine Ev.step (j := 11) (s' := ([some (.ref 7), some (.ref a1), some (.ref 28), some (.int x3), some (.int z1), some (.int k3)], [.int k3], (0, 0), hp4)) rfl rfl ?_
     exact by
      refine Ev.step (j := 12) (s' := ([some (.ref 7), some (.ref a1), some (.ref 28), some (.int x3), some (.int z1), some (.int k3)], [.int x3, .int k3], (0, 0), hp4)) rfl rfl ?_
      refine bs_ge rfl (fun c9 => ?_) (fun c9 => ?_)
      · skip
        refine Ev.step (j := 64) (s' := ([some (.ref 7), some (.ref a1), some (.ref 28), some (.int x3), some (.int z1), some (.int k3)], [.ref 28], (0, 0), hp4)) rfl rfl ?_
        refine bs_getI 14 rfl rfl rfl Hhp4 (bs_R.uq Hhp4 (g := 14) rfl) (by decide) rfl fun z10 hz10 lz10 gz10 => ?_
        refine Ev.step (j := 69) (s' := ([some (.ref 7), some (.ref a1), some (.ref 28), some (.int x3), some (.int z1), some (.int k3)], [.int z1, .int z10], (0, 0), hp4)) rfl rfl ?_
        first | (refine bs_sub rfl (by omega) (by omega) fun z11 hz11 => ?_) | (refine bs_any rfl fun z11 => ?_)
        have rz11 := n_range z11
        exact Ev.ret rfl rfl (by rw [hQ]; exact ⟨t5, Hhp4, Fhp4, bs_an0, sf_S_cons (sf_s1 (x := z11.toInt) rfl (by omega) (by omega)) (sf_S_nil)⟩)
      · skip
        refine Ev.step (j := 16) (s' := ([some (.ref 7), some (.ref a1), some (.ref 28), some (.int x3), some (.int z1), some (.int k3)], [.ref 28], (0, 0), hp4)) rfl rfl ?_
        exact by
         refine bs_getI 14 rfl rfl rfl Hhp4 (bs_R.uq Hhp4 (g := 14) rfl) (by decide) rfl fun z12 hz12 lz12 gz12 => ?_
         refine bs_lit (k := 400) rfl rfl fun z13 hz13 => ?_
         refine bs_ge rfl (fun c14 => ?_) (fun c14 => ?_)
         · skip
           refine Ev.step (j := 64) (s' := ([some (.ref 7), some (.ref a1), some (.ref 28), some (.int x3), some (.int z1), some (.int k3)], [.ref 28], (0, 0), hp4)) rfl rfl ?_
           refine bs_getI 14 rfl rfl rfl Hhp4 (bs_R.uq Hhp4 (g := 14) rfl) (by decide) rfl fun z15 hz15 lz15 gz15 => ?_
           have e16 : z15.toInt = z12.toInt := Option.some.inj (hz15.symm.trans hz12)
           refine Ev.step (j := 69) (s' := ([some (.ref 7), some (.ref a1), some (.ref 28), some (.int x3), some (.int z1), some (.int k3)], [.int z1, .int z15], (0, 0), hp4)) rfl rfl ?_
           first | (refine bs_sub rfl (by omega) (by omega) fun z17 hz17 => ?_) | (refine bs_any rfl fun z17 => ?_)
           have rz17 := n_range z17
           exact Ev.ret rfl rfl (by rw [hQ]; exact ⟨t5, Hhp4, Fhp4, bs_an0, sf_S_cons (sf_s1 (x := z17.toInt) rfl (by omega) (by omega)) (sf_S_nil)⟩)
         · skip
           refine Ev.step (j := 26) (s' := ([some (.ref 7), some (.ref a1), some (.ref 28), some (.int x3), some (.int z1), some (.int k3)], [.ref 7], (0, 0), hp4)) rfl rfl ?_
           exact by
            refine Ev.step (j := 27) (s' := ([some (.ref 7), some (.ref a1), some (.ref 28), some (.int x3), some (.int z1), some (.int k3)], [.ref a1, .ref 7], (0, 0), hp4)) rfl rfl ?_
            refine Ev.step (j := 28) (s' := ([some (.ref 7), some (.ref a1), some (.ref 28), some (.int x3), some (.int z1), some (.int k3)], [.ref 28, .ref a1, .ref 7], (0, 0), hp4)) rfl rfl ?_
            refine Ev.inl (L := (L_X1_plan Z_X6_ferryShore Z_X6_allMissed Z_X10_slotOf Z_X6_lackAt Z_X1_amountMoved)) (nL := 8) rfl (bs_rcv (g := 1) Hhp4 (bs_R.uq Hhp4 (g := 1) rfl) (by decide) rfl) rfl (Nat.le_of_ble_eq_true rfl) ?_
            generalize hQ18 : (fun (o : ab_O) => Ev _ _ _ _) = Q18
            refine (show Ev (ab_T (L_X1_plan Z_X6_ferryShore Z_X6_allMissed Z_X10_slotOf Z_X6_lackAt Z_X1_amountMoved)) 0 ([some (.ref 7), some (.ref a1), some (.ref 28), none, none, none, none, none], [], (0, 0), hp4) Q18 from ?_)
            refine Ev.step (j := 1) (s' := ([some (.ref 7), some (.ref a1), some (.ref 28), none, none, none, none, none], [.ref 28], (0, 0), hp4)) rfl rfl ?_
            refine Ev.inl (L := L_X6_ferryShore) (nL := 1) rfl (bs_rcv (g := 14) Hhp4 (bs_R.uq Hhp4 (g := 14) rfl) (by decide) rfl) rfl (Nat.le_of_ble_eq_true rfl) ?_
            generalize hQ19 : (fun (o : ab_O) => Ev _ _ _ _) = Q19
            refine (show Ev (ab_T L_X6_ferryShore) 0 ([some (.ref 28)], [], (0, 0), hp4) Q19 from ?_)
            refine Ev.step (j := 1) (s' := ([some (.ref 28)], [.ref 28], (0, 0), hp4)) rfl rfl ?_
            exact by
             refine bs_getI 14 rfl rfl rfl Hhp4 (bs_R.uq Hhp4 (g := 14) rfl) (by decide) rfl fun z20 hz20 lz20 gz20 => ?_
             have e21 : z20.toInt = z12.toInt := Option.some.inj (hz20.symm.trans hz12)
             refine bs_lit (k := 2) rfl rfl fun z22 hz22 => ?_
             refine bs_rem 2 rfl hz22 (by decide) (by omega) fun z23 hz23 => ?_
             refine Ev.ret rfl rfl ?_
             rw [← hQ19]
             refine (show Ev _ 4 ([some (.ref 7), some (.ref a1), some (.ref 28), none, none, none, none, none], [.int z23], (0, 0), hp4) _ from ?_)
             refine Ev.step (j := 5) (s' := ([some (.ref 7), some (.ref a1), some (.ref 28), some (.int z23), none, none, none, none], [], (0, 0), hp4)) rfl rfl ?_
             obtain ⟨fr, hfr⟩ : ∃ n : Nat, (n : Int) = z23.toInt := ⟨z23.toInt.toNat, by omega⟩
             refine Ev.step (j := 6) (s' := ([some (.ref 7), some (.ref a1), some (.ref 28), some (.int z23), none, none, none, none], [.ref 28], (0, 0), hp4)) rfl rfl ?_
             exact by
              refine bs_getI 14 rfl rfl rfl Hhp4 (bs_R.uq Hhp4 (g := 14) rfl) (by decide) rfl fun z24 hz24 lz24 gz24 => ?_
              have e25 : z24.toInt = z12.toInt := Option.some.inj (hz24.symm.trans hz12)
              refine bs_lit (k := 400) rfl rfl fun z26 hz26 => ?_
              refine bs_ge rfl (fun c27 => ?_) (fun c27 => ?_)
              · exfalso; omega
              · skip
                refine Ev.step (j := 16) (s' := ([some (.ref 7), some (.ref a1), some (.ref 28), some (.int z23), none, none, none, none], [.ref a1], (0, 0), hp4)) rfl rfl ?_
                refine bs_getI 7 rfl rfl rfl Hhp4 (ra1.fr Fhp4) (by decide) rfl fun z28 hz28 lz28 gz28 => ?_
                refine Ev.step (j := 23) (s' := ([some (.ref 7), some (.ref a1), some (.ref 28), some (.int z23), none, none, none, none], [.int z28], (0, 0), hp4)) rfl rfl ?_
                refine Ev.step (j := 25) (s' := ([some (.ref 7), some (.ref a1), some (.ref 28), some (.int z23), some (.int z28), none, none, none], [], (0, 0), hp4)) rfl rfl ?_
                exact by
                 refine Ev.step (j := 26) (s' := ([some (.ref 7), some (.ref a1), some (.ref 28), some (.int z23), some (.int z28), none, none, none], [.ref 7], (0, 0), hp4)) rfl rfl ?_
                 refine bs_lit (k := 0) rfl rfl fun z29 hz29 => ?_
                 refine bs_putI (W := [(1, 3, 3)]) (g := 1) rfl rfl Hhp4 (bs_R.uq Hhp4 (g := 1) rfl) (by decide) rfl rfl rfl rfl (Or.inl rfl) (by omega) (by omega) fun hp30 Hhp30 fhp30 rhp30 ehp30 qhp30 nhp30 => ?_
                 have Fhp30 := sf_fr_tr Fhp4 (sf_fr_wider (W := [(1, 2, 3), (14, 7, 9), (100, 0, 5), (101, 0, 5), (163, 0, 11), (165, 0, 11), (166, 0, 11), (167, 0, 7), (168, 0, 7), (169, 0, 63)]) rfl fhp30)
                 have h31 : sf_rd hp30 28 7 = some z12.toInt := (ehp30 _ _ (Or.inl (by decide))).trans hz12
                 have h32 : sf_rd hp30 a1 7 = some z28.toInt := (ehp30 _ _ (Or.inl (bs_nq (ra1.fr Fhp4) (bs_R.uq Hhp4 (g := 1) rfl) (by decide)))).trans hz28
                 refine Ev.step (j := 31) (s' := ([some (.ref 7), some (.ref a1), some (.ref 28), some (.int z23), some (.int z28), none, none, none], [.ref 7], (0, 0), hp30)) rfl rfl ?_
                 refine bs_lit (k := 0) rfl rfl fun z33 hz33 => ?_
                 exact by
                  refine bs_putI (W := [(1, 2, 2)]) (g := 1) rfl rfl Hhp30 (bs_R.uq Hhp30 (g := 1) rfl) (by decide) rfl rfl rfl rfl (Or.inl rfl) (by omega) (by omega) fun hp34 Hhp34 fhp34 rhp34 ehp34 qhp34 nhp34 => ?_
                  have Fhp34 := sf_fr_tr Fhp30 (sf_fr_wider (W := [(1, 2, 3), (14, 7, 9), (100, 0, 5), (101, 0, 5), (163, 0, 11), (165, 0, 11), (166, 0, 11), (167, 0, 7), (168, 0, 7), (169, 0, 63)]) rfl fhp34)
                  have h35 : sf_rd hp34 28 7 = some z12.toInt := (ehp34 _ _ (Or.inl (by decide))).trans h31
                  have h36 : sf_rd hp34 a1 7 = some z28.toInt := (ehp34 _ _ (Or.inl (bs_nq (ra1.fr Fhp30) (bs_R.uq Hhp30 (g := 1) rfl) (by decide)))).trans h32
                  have h37 : sf_rd hp34 7 3 = some z29.toInt := (ehp34 _ _ (Or.inr (by omega))).trans rhp30
                  refine Ev.step (j := 36) (s' := ([some (.ref 7), some (.ref a1), some (.ref 28), some (.int z23), some (.int z28), none, none, none], [.ref 28], (0, 0), hp34)) rfl rfl ?_
                  refine Ev.step (j := 37) (s' := ([some (.ref 7), some (.ref a1), some (.ref 28), some (.int z23), some (.int z28), none, none, none], [.ref a1, .ref 28], (0, 0), hp34)) rfl rfl ?_
                  refine bs_call (K := kq_X6_allMissed_f03dbc) [.ref 28, .ref a1] [] rfl ct_X6_allMissed_f03dbc Hhp34 rfl rfl rfl (bs_rcv (g := 14) Hhp34 (bs_R.uq Hhp34 (g := 14) rfl) (by decide) rfl) rfl ?_ (sf_S_nil) fun r38 hp39 thp39 Hhp39 fhp39 ahp39 php39 => ?_
                  · intro q k h
                    match q, h with
                    | 0, h => cases h; exact bs_jR (bs_R.uq Hhp34 (g := 14) rfl)
                    | 1, h => cases h; exact bs_jR (ra1.fr Fhp34)
                    | q + 2, h => cases h
                  obtain ⟨z40, rfl⟩ := bs_anI ahp39
                  have rgz40 := n_range z40
                  have Fhp39 := sf_fr_tr Fhp34 (sf_fr_wider (W := [(1, 2, 3), (14, 7, 9), (100, 0, 5), (101, 0, 5), (163, 0, 11), (165, 0, 11), (166, 0, 11), (167, 0, 7), (168, 0, 7), (169, 0, 63)]) rfl fhp39)
                  have h41 : sf_rd hp39 28 7 = some z12.toInt := (fhp39.2.2.1 _ (bs_R.uq Hhp34 (g := 14) (p := 28) rfl).1 _ (by rw [(bs_R.uq Hhp34 (g := 14) (p := 28) rfl).2]; rfl)).trans h35
                  have h42 : sf_rd hp39 a1 7 = some z28.toInt := (fhp39.2.2.1 _ (ra1.fr Fhp34).1 _ (by rw [(ra1.fr Fhp34).2]; rfl)).trans h36
                  have h43 : sf_rd hp39 7 3 = some z29.toInt := (fhp39.2.2.1 _ (bs_R.uq Hhp34 (g := 1) (p := 7) rfl).1 _ (by rw [(bs_R.uq Hhp34 (g := 1) (p := 7) rfl).2]; rfl)).trans h37
                  have h44 : sf_rd hp39 7 2 = some z33.toInt := (fhp39.2.2.1 _ (bs_R.uq Hhp34 (g := 1) (p := 7) rfl).1 _ (by rw [(bs_R.uq Hhp34 (g := 1) (p := 7) rfl).2]; rfl)).trans rhp34
                  refine (show Ev _ 40 ([some (.ref 7), some (.ref a1), some (.ref 28), some (.int z23), some (.int z28), none, none, none], [.int z40], (0, 0), hp39) _ from ?_)
                  exact by
                   refine Ev.step (j := 42) (s' := ([some (.ref 7), some (.ref a1), some (.ref 28), some (.int z23), some (.int z28), some (.int z40), none, none], [], (0, 0), hp39)) rfl rfl ?_
                   refine bs_lit (k := 0) rfl rfl fun z45 hz45 => ?_
                   refine Ev.step (j := 45) (s' := ([some (.ref 7), some (.ref a1), some (.ref 28), some (.int z23), some (.int z28), some (.int z40), some (.int z45), none], [], (0, 0), hp39)) rfl rfl ?_
                   refine bs_loop (ι := Int32 × ab_H × (Nat → Nat)) (fun ⟨k46, hp47, t48⟩ => ([some (.ref 7), some (.ref a1), some (.ref 28), some (.int z23), some (.int z28), some (.int z40), some (.int k46), none], [], (0, 0), hp47)) (fun ⟨k46, hp47, t48⟩ => (sf_h t48 hp47) ∧ (sf_fr [(1, 2, 3), (14, 7, 9), (100, 0, 5), (101, 0, 5), (163, 0, 11), (165, 0, 11), (166, 0, 11), (167, 0, 7), (168, 0, 7), (169, 0, 63)] t hp t48 hp47) ∧ (sf_rd hp47 28 7 = some z12.toInt) ∧ (0 ≤ k46.toInt ∧ k46.toInt ≤ 8)) (fun ⟨k46, hp47, t48⟩ => (8 - k46.toInt).toNat) ?_ (z45, hp39, thp39) ⟨Hhp39, Fhp39, h41, (by first | omega | assumption)⟩
                   rintro ⟨k46, hp47, t48⟩ ⟨Hhp47, Fhp47, i50, i51⟩ ih49
                   refine (show Ev _ 45 ([some (.ref 7), some (.ref a1), some (.ref 28), some (.int z23), some (.int z28), some (.int z40), some (.int k46), none], [], (0, 0), hp47) _ from ?_)
                   refine Ev.step (j := 47) (s' := ([some (.ref 7), some (.ref a1), some (.ref 28), some (.int z23), some (.int z28), some (.int z40), some (.int k46), none], [.int k46], (0, 0), hp47)) rfl rfl ?_
                   refine Ev.step (j := 48) (s' := ([some (.ref 7), some (.ref a1), some (.ref 28), some (.int z23), some (.int z28), some (.int z40), some (.int k46), none], [.ref a1, .int k46], (0, 0), hp47)) rfl rfl ?_
                   exact by
                    refine bs_getI 7 rfl rfl rfl Hhp47 (ra1.fr Fhp47) (by decide) rfl fun z52 hz52 lz52 gz52 => ?_
                    have e53 : z52.toInt = M := Option.some.inj (hz52.symm.trans ((Fhp47.2.2.1 _ ra1.1 _ (by rw [ra1.2]; rfl)).trans hM))
                    refine bs_ge rfl (fun c54 => ?_) (fun c54 => ?_)
                    · skip
                      refine bs_lit (k := 0) rfl rfl fun z55 hz55 => ?_
                      refine Ev.step (j := 118) (s' := ([some (.ref 7), some (.ref a1), some (.ref 28), some (.int z23), some (.int z28), some (.int z40), some (.int z55), none], [], (0, 0), hp47)) rfl rfl ?_
                      refine bs_loop (ι := Int32 × (Option Value) × ab_H × (Nat → Nat)) (fun ⟨k56, o59, hp57, t58⟩ => ([some (.ref 7), some (.ref a1), some (.ref 28), some (.int z23), some (.int z28), some (.int z40), some (.int k56), o59], [], (0, 0), hp57)) (fun ⟨k56, o59, hp57, t58⟩ => (sf_h t58 hp57) ∧ (sf_fr [(1, 2, 3), (14, 7, 9), (100, 0, 5), (101, 0, 5), (163, 0, 11), (165, 0, 11), (166, 0, 11), (167, 0, 7), (168, 0, 7), (169, 0, 63)] t hp t58 hp57) ∧ (sf_rd hp57 28 7 = some z12.toInt) ∧ (0 ≤ k56.toInt ∧ k56.toInt ≤ 6) ∧ (∀ q : Nat, (q : Int) < k56.toInt → fr_ok hp57 29 fr q)) (fun ⟨k56, o59, hp57, t58⟩ => (6 - k56.toInt).toNat) ?_ (z55, none, hp47, t48) ⟨Hhp47, Fhp47, i50, (by first | omega | assumption), (by first | exact FQ | exact fun q hq => absurd hq (by omega))⟩
                      rintro ⟨k56, o59, hp57, t58⟩ ⟨Hhp57, Fhp57, i61, i62, i63⟩ ih60
                      refine (show Ev _ 118 ([some (.ref 7), some (.ref a1), some (.ref 28), some (.int z23), some (.int z28), some (.int z40), some (.int k56), o59], [], (0, 0), hp57) _ from ?_)
                      exact by
                       refine Ev.step (j := 120) (s' := ([some (.ref 7), some (.ref a1), some (.ref 28), some (.int z23), some (.int z28), some (.int z40), some (.int k56), o59], [.int k56], (0, 0), hp57)) rfl rfl ?_
                       refine Ev.step (j := 121) (s' := ([some (.ref 7), some (.ref a1), some (.ref 28), some (.int z23), some (.int z28), some (.int z40), some (.int k56), o59], [.ref a1, .int k56], (0, 0), hp57)) rfl rfl ?_
                       refine bs_getI 7 rfl rfl rfl Hhp57 (ra1.fr Fhp57) (by decide) rfl fun z64 hz64 lz64 gz64 => ?_
                       have e65 : z64.toInt = G := Option.some.inj (hz64.symm.trans ((Fhp57.2.2.1 _ ra1.1 _ (by rw [ra1.2]; rfl)).trans hG))
                       refine bs_ge rfl (fun c66 => ?_) (fun c66 => ?_)
                       · skip
                         have FR : ∀ q : Nat, (q : Int) < G → fr_ok hp57 29 fr q := fun q hq => i63 q (by omega)
                         refine Ev.ret rfl rfl ?_
                         rw [← hQ18]
                         refine (show Ev _ 31 ([some (.ref 7), some (.ref a1), some (.ref 28), some (.int x3), some (.int z1), some (.int k3)], [], (0, 0), hp57) _ from ?_)
                         exact by
                          refine Ev.step (j := 32) (s' := ([some (.ref 7), some (.ref a1), some (.ref 28), some (.int x3), some (.int z1), some (.int k3)], [.ref 7], (0, 0), hp57)) rfl rfl ?_
                          refine Ev.step (j := 33) (s' := ([some (.ref 7), some (.ref a1), some (.ref 28), some (.int x3), some (.int z1), some (.int k3)], [.ref a1, .ref 7], (0, 0), hp57)) rfl rfl ?_
                          refine Ev.step (j := 34) (s' := ([some (.ref 7), some (.ref a1), some (.ref 28), some (.int x3), some (.int z1), some (.int k3)], [.ref 28, .ref a1, .ref 7], (0, 0), hp57)) rfl rfl ?_
                          refine Ev.inl (L := (L_X1_carry Z_X6_ferryShore Z_X10_slotOf)) (nL := 5) rfl (bs_rcv (g := 1) Hhp57 (bs_R.uq Hhp57 (g := 1) rfl) (by decide) rfl) rfl (Nat.le_of_ble_eq_true rfl) ?_
                          generalize hQ67 : (fun (o : ab_O) => Ev _ _ _ _) = Q67
                          refine (show Ev (ab_T (L_X1_carry Z_X6_ferryShore Z_X10_slotOf)) 0 ([some (.ref 7), some (.ref a1), some (.ref 28), none, none], [], (0, 0), hp57) Q67 from ?_)
                          refine Ev.step (j := 1) (s' := ([some (.ref 7), some (.ref a1), some (.ref 28), none, none], [.ref 28], (0, 0), hp57)) rfl rfl ?_
                          refine Ev.inl (L := L_X6_ferryShore) (nL := 1) rfl (bs_rcv (g := 14) Hhp57 (bs_R.uq Hhp57 (g := 14) rfl) (by decide) rfl) rfl (Nat.le_of_ble_eq_true rfl) ?_
                          generalize hQ68 : (fun (o : ab_O) => Ev _ _ _ _) = Q68
                          refine (show Ev (ab_T L_X6_ferryShore) 0 ([some (.ref 28)], [], (0, 0), hp57) Q68 from ?_)
                          exact by
                           refine Ev.step (j := 1) (s' := ([some (.ref 28)], [.ref 28], (0, 0), hp57)) rfl rfl ?_
                           refine bs_getI 14 rfl rfl rfl Hhp57 (bs_R.uq Hhp57 (g := 14) rfl) (by decide) rfl fun z69 hz69 lz69 gz69 => ?_
                           have e70 : z69.toInt = z12.toInt := Option.some.inj (hz69.symm.trans i61)
                           refine bs_lit (k := 2) rfl rfl fun z71 hz71 => ?_
                           refine bs_rem 2 rfl hz71 (by decide) (by omega) fun z72 hz72 => ?_
                           refine Ev.ret rfl rfl ?_
                           rw [← hQ68]
                           refine (show Ev _ 4 ([some (.ref 7), some (.ref a1), some (.ref 28), none, none], [.int z72], (0, 0), hp57) _ from ?_)
                           refine Ev.step (j := 5) (s' := ([some (.ref 7), some (.ref a1), some (.ref 28), some (.int z72), none], [], (0, 0), hp57)) rfl rfl ?_
                           exact by
                            refine bs_lit (k := 0) rfl rfl fun z73 hz73 => ?_
                            refine Ev.step (j := 8) (s' := ([some (.ref 7), some (.ref a1), some (.ref 28), some (.int z72), some (.int z73)], [], (0, 0), hp57)) rfl rfl ?_
                            refine bs_loop (ι := Int32 × ab_H × (Nat → Nat)) (fun ⟨k74, hp75, t76⟩ => ([some (.ref 7), some (.ref a1), some (.ref 28), some (.int z72), some (.int k74)], [], (0, 0), hp75)) (fun ⟨k74, hp75, t76⟩ => (sf_h t76 hp75) ∧ (sf_fr [(1, 2, 3), (14, 7, 9), (100, 0, 5), (101, 0, 5), (163, 0, 11), (165, 0, 11), (166, 0, 11), (167, 0, 7), (168, 0, 7), (169, 0, 63)] t hp t76 hp75) ∧ (sf_rd hp75 28 7 = some z12.toInt) ∧ (0 ≤ k74.toInt ∧ k74.toInt ≤ 8) ∧ (∀ q : Nat, (q : Int) < G → fr_ok hp75 29 fr q)) (fun ⟨k74, hp75, t76⟩ => (8 - k74.toInt).toNat) ?_ (z73, hp57, t58) ⟨Hhp57, Fhp57, i61, (by first | omega | assumption), (by first | exact FR2 | exact FR)⟩
                            rintro ⟨k74, hp75, t76⟩ ⟨Hhp75, Fhp75, i78, i79, i80⟩ ih77
                            refine (show Ev _ 8 ([some (.ref 7), some (.ref a1), some (.ref 28), some (.int z72), some (.int k74)], [], (0, 0), hp75) _ from ?_)
                            refine Ev.step (j := 10) (s' := ([some (.ref 7), some (.ref a1), some (.ref 28), some (.int z72), some (.int k74)], [.int k74], (0, 0), hp75)) rfl rfl ?_
                            refine Ev.step (j := 11) (s' := ([some (.ref 7), some (.ref a1), some (.ref 28), some (.int z72), some (.int k74)], [.ref a1, .int k74], (0, 0), hp75)) rfl rfl ?_
                            refine bs_getI 7 rfl rfl rfl Hhp75 (ra1.fr Fhp75) (by decide) rfl fun z81 hz81 lz81 gz81 => ?_
                            have e82 : z81.toInt = M := Option.some.inj (hz81.symm.trans ((Fhp75.2.2.1 _ ra1.1 _ (by rw [ra1.2]; rfl)).trans hM))
                            refine bs_ge rfl (fun c83 => ?_) (fun c83 => ?_)
                            · skip
                              refine bs_lit (k := 0) rfl rfl fun z84 hz84 => ?_
                              exact by
                               refine Ev.step (j := 59) (s' := ([some (.ref 7), some (.ref a1), some (.ref 28), some (.int z72), some (.int z84)], [], (0, 0), hp75)) rfl rfl ?_
                               refine bs_loop (ι := Int32 × ab_H × (Nat → Nat)) (fun ⟨k85, hp86, t87⟩ => ([some (.ref 7), some (.ref a1), some (.ref 28), some (.int z72), some (.int k85)], [], (0, 0), hp86)) (fun ⟨k85, hp86, t87⟩ => (sf_h t87 hp86) ∧ (sf_fr [(1, 2, 3), (14, 7, 9), (100, 0, 5), (101, 0, 5), (163, 0, 11), (165, 0, 11), (166, 0, 11), (167, 0, 7), (168, 0, 7), (169, 0, 63)] t hp t87 hp86) ∧ (sf_rd hp86 28 7 = some z12.toInt) ∧ (0 ≤ k85.toInt ∧ k85.toInt ≤ 6) ∧ (∀ q : Nat, k85.toInt ≤ (q : Int) → (q : Int) < G → fr_ok hp86 29 fr q)) (fun ⟨k85, hp86, t87⟩ => (6 - k85.toInt).toNat) ?_ (z84, hp75, t76) ⟨Hhp75, Fhp75, i78, (by first | omega | assumption), (by first | exact FR3 | exact fun q _ hq => i80 q hq)⟩
                               rintro ⟨k85, hp86, t87⟩ ⟨Hhp86, Fhp86, i89, i90, i91⟩ ih88
                               refine (show Ev _ 59 ([some (.ref 7), some (.ref a1), some (.ref 28), some (.int z72), some (.int k85)], [], (0, 0), hp86) _ from ?_)
                               refine Ev.step (j := 61) (s' := ([some (.ref 7), some (.ref a1), some (.ref 28), some (.int z72), some (.int k85)], [.int k85], (0, 0), hp86)) rfl rfl ?_
                               refine Ev.step (j := 62) (s' := ([some (.ref 7), some (.ref a1), some (.ref 28), some (.int z72), some (.int k85)], [.ref a1, .int k85], (0, 0), hp86)) rfl rfl ?_
                               refine bs_getI 7 rfl rfl rfl Hhp86 (ra1.fr Fhp86) (by decide) rfl fun z92 hz92 lz92 gz92 => ?_
                               have e93 : z92.toInt = G := Option.some.inj (hz92.symm.trans ((Fhp86.2.2.1 _ ra1.1 _ (by rw [ra1.2]; rfl)).trans hG))
                               refine bs_ge rfl (fun c94 => ?_) (fun c94 => ?_)
                               · skip
                                 refine Ev.step (j := 142) (s' := ([some (.ref 7), some (.ref a1), some (.ref 28), some (.int z72), some (.int k85)], [.ref 28], (0, 0), hp86)) rfl rfl ?_
                                 exact by
                                  refine Ev.step (j := 143) (s' := ([some (.ref 7), some (.ref a1), some (.ref 28), some (.int z72), some (.int k85)], [.ref 28, .ref 28], (0, 0), hp86)) rfl rfl ?_
                                  refine bs_getI 14 rfl rfl rfl Hhp86 (bs_R.uq Hhp86 (g := 14) rfl) (by decide) rfl fun z95 hz95 lz95 gz95 => ?_
                                  refine Ev.step (j := 147) (s' := ([some (.ref 7), some (.ref a1), some (.ref 28), some (.int z72), some (.int k85)], [.ref 7, .int z95, .ref 28], (0, 0), hp86)) rfl rfl ?_
                                  refine bs_getI 1 rfl rfl rfl Hhp86 (bs_R.uq Hhp86 (g := 1) rfl) (by decide) rfl fun z96 hz96 lz96 gz96 => ?_
                                  first | (refine bs_add rfl (by omega) (by omega) fun z97 hz97 => ?_) | (refine bs_any rfl fun z97 => ?_)
                                  have rz97 := n_range z97
                                  refine bs_putI (W := [(14, 9, 9)]) (g := 14) rfl rfl Hhp86 (bs_R.uq Hhp86 (g := 14) rfl) (by decide) rfl rfl rfl rfl (Or.inl rfl) (by omega) (by omega) fun hp98 Hhp98 fhp98 rhp98 ehp98 qhp98 nhp98 => ?_
                                  have Fhp98 := sf_fr_tr Fhp86 (sf_fr_wider (W := [(1, 2, 3), (14, 7, 9), (100, 0, 5), (101, 0, 5), (163, 0, 11), (165, 0, 11), (166, 0, 11), (167, 0, 7), (168, 0, 7), (169, 0, 63)]) rfl fhp98)
                                  have h99 : sf_rd hp98 28 7 = some z12.toInt := (ehp98 _ _ (Or.inr (by omega))).trans i89
                                  have h100 : sf_rd hp98 a1 8 = some z92.toInt := (ehp98 _ _ (Or.inl (bs_nq (ra1.fr Fhp86) (bs_R.uq Hhp86 (g := 14) rfl) (by decide)))).trans hz92
                                  have h101 : sf_rd hp98 7 3 = some z96.toInt := (ehp98 _ _ (Or.inl (by decide))).trans hz96
                                  refine Ev.step (j := 155) (s' := ([some (.ref 7), some (.ref a1), some (.ref 28), some (.int z72), some (.int k85)], [.ref 7], (0, 0), hp98)) rfl rfl ?_
                                  exact by
                                   refine bs_getI 1 rfl rfl rfl Hhp98 (bs_R.uq Hhp98 (g := 1) rfl) (by decide) rfl fun z102 hz102 lz102 gz102 => ?_
                                   have e103 : z102.toInt = z96.toInt := Option.some.inj (hz102.symm.trans h101)
                                   refine bs_ifne rfl (fun c104 => ?_) (fun c104 => ?_)
                                   · skip
                                     refine Ev.ret rfl rfl ?_
                                     rw [← hQ67]
                                     refine (show Ev _ 37 ([some (.ref 7), some (.ref a1), some (.ref 28), some (.int x3), some (.int z1), some (.int k3)], [], (0, 0), hp98) _ from ?_)
                                     refine Ev.step (j := 38) (s' := ([some (.ref 7), some (.ref a1), some (.ref 28), some (.int x3), some (.int z1), some (.int k3)], [.ref 28], (0, 0), hp98)) rfl rfl ?_
                                     refine Ev.step (j := 39) (s' := ([some (.ref 7), some (.ref a1), some (.ref 28), some (.int x3), some (.int z1), some (.int k3)], [.ref a1, .ref 28], (0, 0), hp98)) rfl rfl ?_
                                     refine bs_call (K := kq_X6_makeAndEat_f03dbc) [.ref 28, .ref a1] [] rfl ct_X6_makeAndEat_f03dbc Hhp98 rfl rfl rfl (bs_rcv (g := 14) Hhp98 (bs_R.uq Hhp98 (g := 14) rfl) (by decide) rfl) rfl ?_ (sf_S_nil) fun r105 hp106 thp106 Hhp106 fhp106 ahp106 php106 => ?_
                                     · intro q k h
                                       match q, h with
                                       | 0, h => cases h; exact bs_jR (bs_R.uq Hhp98 (g := 14) rfl)
                                       | 1, h => cases h; exact bs_jR (ra1.fr Fhp98)
                                       | q + 2, h => cases h
                                     obtain rfl := ahp106.1 rfl
                                     have Fhp106 := sf_fr_tr Fhp98 (sf_fr_wider (W := [(1, 2, 3), (14, 7, 9), (100, 0, 5), (101, 0, 5), (163, 0, 11), (165, 0, 11), (166, 0, 11), (167, 0, 7), (168, 0, 7), (169, 0, 63)]) rfl fhp106)
                                     have h107 : sf_rd hp106 28 7 = some z12.toInt := (fhp106.2.2.1 _ (bs_R.uq Hhp98 (g := 14) (p := 28) rfl).1 _ (by rw [(bs_R.uq Hhp98 (g := 14) (p := 28) rfl).2]; rfl)).trans h99
                                     have h108 : sf_rd hp106 a1 8 = some z92.toInt := (fhp106.2.2.1 _ (ra1.fr Fhp98).1 _ (by rw [(ra1.fr Fhp98).2]; rfl)).trans h100
                                     have h109 : sf_rd hp106 7 3 = some z96.toInt := (fhp106.2.2.1 _ (bs_R.uq Hhp98 (g := 1) (p := 7) rfl).1 _ (by rw [(bs_R.uq Hhp98 (g := 1) (p := 7) rfl).2]; rfl)).trans h101
                                     have h110 : sf_rd hp106 28 9 = some z97.toInt := (fhp106.2.2.1 _ (bs_R.uq Hhp98 (g := 14) (p := 28) rfl).1 _ (by rw [(bs_R.uq Hhp98 (g := 14) (p := 28) rfl).2]; rfl)).trans rhp98
                                     refine (show Ev _ 42 ([some (.ref 7), some (.ref a1), some (.ref 28), some (.int x3), some (.int z1), some (.int k3)], [], (0, 0), hp106) _ from ?_)
                                     exact by
                                      refine Ev.step (j := 43) (s' := ([some (.ref 7), some (.ref a1), some (.ref 28), some (.int x3), some (.int z1), some (.int k3)], [.ref 28], (0, 0), hp106)) rfl rfl ?_
                                      refine Ev.step (j := 44) (s' := ([some (.ref 7), some (.ref a1), some (.ref 28), some (.int x3), some (.int z1), some (.int k3)], [.ref a1, .ref 28], (0, 0), hp106)) rfl rfl ?_
                                      refine bs_call (K := kq_X6_countApart_f03dbc) [.ref 28, .ref a1] [] rfl ct_X6_countApart_f03dbc Hhp106 rfl rfl rfl (bs_rcv (g := 14) Hhp106 (bs_R.uq Hhp106 (g := 14) rfl) (by decide) rfl) rfl ?_ (sf_S_nil) fun r111 hp112 thp112 Hhp112 fhp112 ahp112 php112 => ?_
                                      · intro q k h
                                        match q, h with
                                        | 0, h => cases h; exact bs_jR (bs_R.uq Hhp106 (g := 14) rfl)
                                        | 1, h => cases h; exact bs_jR (ra1.fr Fhp106)
                                        | q + 2, h => cases h
                                      obtain rfl := ahp112.1 rfl
                                      have Fhp112 := sf_fr_tr Fhp106 (sf_fr_wider (W := [(1, 2, 3), (14, 7, 9), (100, 0, 5), (101, 0, 5), (163, 0, 11), (165, 0, 11), (166, 0, 11), (167, 0, 7), (168, 0, 7), (169, 0, 63)]) rfl fhp112)
                                      have h113 : sf_rd hp112 28 7 = some z12.toInt := (fhp112.2.2.1 _ (bs_R.uq Hhp106 (g := 14) (p := 28) rfl).1 _ (by rw [(bs_R.uq Hhp106 (g := 14) (p := 28) rfl).2]; rfl)).trans h107
                                      have h114 : sf_rd hp112 a1 8 = some z92.toInt := (fhp112.2.2.1 _ (ra1.fr Fhp106).1 _ (by rw [(ra1.fr Fhp106).2]; rfl)).trans h108
                                      have h115 : sf_rd hp112 7 3 = some z96.toInt := (fhp112.2.2.1 _ (bs_R.uq Hhp106 (g := 1) (p := 7) rfl).1 _ (by rw [(bs_R.uq Hhp106 (g := 1) (p := 7) rfl).2]; rfl)).trans h109
                                      have h116 : sf_rd hp112 28 9 = some z97.toInt := (fhp112.2.2.1 _ (bs_R.uq Hhp106 (g := 14) (p := 28) rfl).1 _ (by rw [(bs_R.uq Hhp106 (g := 14) (p := 28) rfl).2]; rfl)).trans h110
                                      refine (show Ev _ 47 ([some (.ref 7), some (.ref a1), some (.ref 28), some (.int x3), some (.int z1), some (.int k3)], [], (0, 0), hp112) _ from ?_)
                                      exact by
                                       refine Ev.step (j := 48) (s' := ([some (.ref 7), some (.ref a1), some (.ref 28), some (.int x3), some (.int z1), some (.int k3)], [.ref 28], (0, 0), hp112)) rfl rfl ?_
                                       refine Ev.step (j := 49) (s' := ([some (.ref 7), some (.ref a1), some (.ref 28), some (.int x3), some (.int z1), some (.int k3)], [.ref 28, .ref 28], (0, 0), hp112)) rfl rfl ?_
                                       refine bs_getI 14 rfl rfl rfl Hhp112 (bs_R.uq Hhp112 (g := 14) rfl) (by decide) rfl fun z117 hz117 lz117 gz117 => ?_
                                       have e118 : z117.toInt = z12.toInt := Option.some.inj (hz117.symm.trans h113)
                                       refine bs_lit (k := 1) rfl rfl fun z119 hz119 => ?_
                                       first | (refine bs_add rfl (by omega) (by omega) fun z120 hz120 => ?_) | (refine bs_any rfl fun z120 => ?_)
                                       have rz120 := n_range z120
                                       refine bs_putI (W := [(14, 7, 7)]) (g := 14) rfl rfl Hhp112 (bs_R.uq Hhp112 (g := 14) rfl) (by decide) rfl rfl rfl rfl (Or.inl rfl) (by omega) (by omega) fun hp121 Hhp121 fhp121 rhp121 ehp121 qhp121 nhp121 => ?_
                                       have Fhp121 := sf_fr_tr Fhp112 (sf_fr_wider (W := [(1, 2, 3), (14, 7, 9), (100, 0, 5), (101, 0, 5), (163, 0, 11), (165, 0, 11), (166, 0, 11), (167, 0, 7), (168, 0, 7), (169, 0, 63)]) rfl fhp121)
                                       have h122 : sf_rd hp121 a1 8 = some z92.toInt := (ehp121 _ _ (Or.inl (bs_nq (ra1.fr Fhp112) (bs_R.uq Hhp112 (g := 14) rfl) (by decide)))).trans h114
                                       have h123 : sf_rd hp121 7 3 = some z96.toInt := (ehp121 _ _ (Or.inl (by decide))).trans h115
                                       have h124 : sf_rd hp121 28 9 = some z97.toInt := (ehp121 _ _ (Or.inr (by omega))).trans h116
                                       refine bs_iinc (1) rfl rfl rfl rfl (by omega) (by omega) fun z125 hz125 => ?_
                                       exact by
                                        refine (show Ev _ 60 ([some (.ref 7), some (.ref a1), some (.ref 28), some (.int x3), some (.int z1), some (.int z125)], [], (0, 0), hp121) _ from ?_)
                                        refine Ev.step (j := 9) (s' := ([some (.ref 7), some (.ref a1), some (.ref 28), some (.int x3), some (.int z1), some (.int z125)], [], (0, 0), hp121)) rfl rfl ?_
                                        refine ih6 (z125, hp121, thp112) ⟨Hhp121, Fhp121, (by first | omega | assumption), (by first | omega | assumption)⟩ ?_
                                        show (x3.toInt - z125.toInt).toNat < (x3.toInt - k3.toInt).toNat
                                        omega
                                   · skip
                                     have c126 : z102.toInt = 0 := by omega
                                     refine Ev.step (j := 162) (s' := ([some (.ref 7), some (.ref a1), some (.ref 28), some (.int z72), some (.int k85)], [.ref 28], (0, 0), hp98)) rfl rfl ?_
                                     exact by
                                      refine Ev.step (j := 163) (s' := ([some (.ref 7), some (.ref a1), some (.ref 28), some (.int z72), some (.int k85)], [.ref 28, .ref 28], (0, 0), hp98)) rfl rfl ?_
                                      refine bs_getI 14 rfl rfl rfl Hhp98 (bs_R.uq Hhp98 (g := 14) rfl) (by decide) rfl fun z127 hz127 lz127 gz127 => ?_
                                      refine bs_lit (k := 1) rfl rfl fun z128 hz128 => ?_
                                      first | (refine bs_add rfl (by omega) (by omega) fun z129 hz129 => ?_) | (refine bs_any rfl fun z129 => ?_)
                                      have rz129 := n_range z129
                                      refine bs_putI (W := [(14, 8, 8)]) (g := 14) rfl rfl Hhp98 (bs_R.uq Hhp98 (g := 14) rfl) (by decide) rfl rfl rfl rfl (Or.inl rfl) (by omega) (by omega) fun hp130 Hhp130 fhp130 rhp130 ehp130 qhp130 nhp130 => ?_
                                      have Fhp130 := sf_fr_tr Fhp98 (sf_fr_wider (W := [(1, 2, 3), (14, 7, 9), (100, 0, 5), (101, 0, 5), (163, 0, 11), (165, 0, 11), (166, 0, 11), (167, 0, 7), (168, 0, 7), (169, 0, 63)]) rfl fhp130)
                                      have h131 : sf_rd hp130 28 7 = some z12.toInt := (ehp130 _ _ (Or.inr (by omega))).trans h99
                                      have h132 : sf_rd hp130 a1 8 = some z92.toInt := (ehp130 _ _ (Or.inl (bs_nq (ra1.fr Fhp98) (bs_R.uq Hhp98 (g := 14) rfl) (by decide)))).trans h100
                                      have h133 : sf_rd hp130 7 3 = some z96.toInt := (ehp130 _ _ (Or.inl (by decide))).trans h101
                                      have h134 : sf_rd hp130 28 9 = some z97.toInt := (ehp130 _ _ (Or.inr (by omega))).trans rhp98
                                      refine Ev.ret rfl rfl ?_
                                      rw [← hQ67]
                                      refine (show Ev _ 37 ([some (.ref 7), some (.ref a1), some (.ref 28), some (.int x3), some (.int z1), some (.int k3)], [], (0, 0), hp130) _ from ?_)
                                      exact by
                                       refine Ev.step (j := 38) (s' := ([some (.ref 7), some (.ref a1), some (.ref 28), some (.int x3), some (.int z1), some (.int k3)], [.ref 28], (0, 0), hp130)) rfl rfl ?_
                                       refine Ev.step (j := 39) (s' := ([some (.ref 7), some (.ref a1), some (.ref 28), some (.int x3), some (.int z1), some (.int k3)], [.ref a1, .ref 28], (0, 0), hp130)) rfl rfl ?_
                                       refine bs_call (K := kq_X6_makeAndEat_f03dbc) [.ref 28, .ref a1] [] rfl ct_X6_makeAndEat_f03dbc Hhp130 rfl rfl rfl (bs_rcv (g := 14) Hhp130 (bs_R.uq Hhp130 (g := 14) rfl) (by decide) rfl) rfl ?_ (sf_S_nil) fun r135 hp136 thp136 Hhp136 fhp136 ahp136 php136 => ?_
                                       · intro q k h
                                         match q, h with
                                         | 0, h => cases h; exact bs_jR (bs_R.uq Hhp130 (g := 14) rfl)
                                         | 1, h => cases h; exact bs_jR (ra1.fr Fhp130)
                                         | q + 2, h => cases h
                                       obtain rfl := ahp136.1 rfl
                                       have Fhp136 := sf_fr_tr Fhp130 (sf_fr_wider (W := [(1, 2, 3), (14, 7, 9), (100, 0, 5), (101, 0, 5), (163, 0, 11), (165, 0, 11), (166, 0, 11), (167, 0, 7), (168, 0, 7), (169, 0, 63)]) rfl fhp136)
                                       have h137 : sf_rd hp136 28 7 = some z12.toInt := (fhp136.2.2.1 _ (bs_R.uq Hhp130 (g := 14) (p := 28) rfl).1 _ (by rw [(bs_R.uq Hhp130 (g := 14) (p := 28) rfl).2]; rfl)).trans h131
                                       have h138 : sf_rd hp136 a1 8 = some z92.toInt := (fhp136.2.2.1 _ (ra1.fr Fhp130).1 _ (by rw [(ra1.fr Fhp130).2]; rfl)).trans h132
                                       have h139 : sf_rd hp136 7 3 = some z96.toInt := (fhp136.2.2.1 _ (bs_R.uq Hhp130 (g := 1) (p := 7) rfl).1 _ (by rw [(bs_R.uq Hhp130 (g := 1) (p := 7) rfl).2]; rfl)).trans h133
                                       have h140 : sf_rd hp136 28 9 = some z97.toInt := (fhp136.2.2.1 _ (bs_R.uq Hhp130 (g := 14) (p := 28) rfl).1 _ (by rw [(bs_R.uq Hhp130 (g := 14) (p := 28) rfl).2]; rfl)).trans h134
                                       have h141 : sf_rd hp136 28 8 = some z129.toInt := (fhp136.2.2.1 _ (bs_R.uq Hhp130 (g := 14) (p := 28) rfl).1 _ (by rw [(bs_R.uq Hhp130 (g := 14) (p := 28) rfl).2]; rfl)).trans rhp130
                                       refine (show Ev _ 42 ([some (.ref 7), some (.ref a1), some (.ref 28), some (.int x3), some (.int z1), some (.int k3)], [], (0, 0), hp136) _ from ?_)
                                       exact by
                                        refine Ev.step (j := 43) (s' := ([some (.ref 7), some (.ref a1), some (.ref 28), some (.int x3), some (.int z1), some (.int k3)], [.ref 28], (0, 0), hp136)) rfl rfl ?_
                                        refine Ev.step (j := 44) (s' := ([some (.ref 7), some (.ref a1), some (.ref 28), some (.int x3), some (.int z1), some (.int k3)], [.ref a1, .ref 28], (0, 0), hp136)) rfl rfl ?_
                                        refine bs_call (K := kq_X6_countApart_f03dbc) [.ref 28, .ref a1] [] rfl ct_X6_countApart_f03dbc Hhp136 rfl rfl rfl (bs_rcv (g := 14) Hhp136 (bs_R.uq Hhp136 (g := 14) rfl) (by decide) rfl) rfl ?_ (sf_S_nil) fun r142 hp143 thp143 Hhp143 fhp143 ahp143 php143 => ?_
                                        · intro q k h
                                          match q, h with
                                          | 0, h => cases h; exact bs_jR (bs_R.uq Hhp136 (g := 14) rfl)
                                          | 1, h => cases h; exact bs_jR (ra1.fr Fhp136)
                                          | q + 2, h => cases h
                                        obtain rfl := ahp143.1 rfl
                                        have Fhp143 := sf_fr_tr Fhp136 (sf_fr_wider (W := [(1, 2, 3), (14, 7, 9), (100, 0, 5), (101, 0, 5), (163, 0, 11), (165, 0, 11), (166, 0, 11), (167, 0, 7), (168, 0, 7), (169, 0, 63)]) rfl fhp143)
                                        have h144 : sf_rd hp143 28 7 = some z12.toInt := (fhp143.2.2.1 _ (bs_R.uq Hhp136 (g := 14) (p := 28) rfl).1 _ (by rw [(bs_R.uq Hhp136 (g := 14) (p := 28) rfl).2]; rfl)).trans h137
                                        have h145 : sf_rd hp143 a1 8 = some z92.toInt := (fhp143.2.2.1 _ (ra1.fr Fhp136).1 _ (by rw [(ra1.fr Fhp136).2]; rfl)).trans h138
                                        have h146 : sf_rd hp143 7 3 = some z96.toInt := (fhp143.2.2.1 _ (bs_R.uq Hhp136 (g := 1) (p := 7) rfl).1 _ (by rw [(bs_R.uq Hhp136 (g := 1) (p := 7) rfl).2]; rfl)).trans h139
                                        have h147 : sf_rd hp143 28 9 = some z97.toInt := (fhp143.2.2.1 _ (bs_R.uq Hhp136 (g := 14) (p := 28) rfl).1 _ (by rw [(bs_R.uq Hhp136 (g := 14) (p := 28) rfl).2]; rfl)).trans h140
                                        have h148 : sf_rd hp143 28 8 = some z129.toInt := (fhp143.2.2.1 _ (bs_R.uq Hhp136 (g := 14) (p := 28) rfl).1 _ (by rw [(bs_R.uq Hhp136 (g := 14) (p := 28) rfl).2]; rfl)).trans h141
                                        refine (show Ev _ 47 ([some (.ref 7), some (.ref a1), some (.ref 28), some (.int x3), some (.int z1), some (.int k3)], [], (0, 0), hp143) _ from ?_)
                                        exact by
                                         refine Ev.step (j := 48) (s' := ([some (.ref 7), some (.ref a1), some (.ref 28), some (.int x3), some (.int z1), some (.int k3)], [.ref 28], (0, 0), hp143)) rfl rfl ?_
                                         refine Ev.step (j := 49) (s' := ([some (.ref 7), some (.ref a1), some (.ref 28), some (.int x3), some (.int z1), some (.int k3)], [.ref 28, .ref 28], (0, 0), hp143)) rfl rfl ?_
                                         refine bs_getI 14 rfl rfl rfl Hhp143 (bs_R.uq Hhp143 (g := 14) rfl) (by decide) rfl fun z149 hz149 lz149 gz149 => ?_
                                         have e150 : z149.toInt = z12.toInt := Option.some.inj (hz149.symm.trans h144)
                                         refine bs_lit (k := 1) rfl rfl fun z151 hz151 => ?_
                                         first | (refine bs_add rfl (by omega) (by omega) fun z152 hz152 => ?_) | (refine bs_any rfl fun z152 => ?_)
                                         have rz152 := n_range z152
                                         refine bs_putI (W := [(14, 7, 7)]) (g := 14) rfl rfl Hhp143 (bs_R.uq Hhp143 (g := 14) rfl) (by decide) rfl rfl rfl rfl (Or.inl rfl) (by omega) (by omega) fun hp153 Hhp153 fhp153 rhp153 ehp153 qhp153 nhp153 => ?_
                                         have Fhp153 := sf_fr_tr Fhp143 (sf_fr_wider (W := [(1, 2, 3), (14, 7, 9), (100, 0, 5), (101, 0, 5), (163, 0, 11), (165, 0, 11), (166, 0, 11), (167, 0, 7), (168, 0, 7), (169, 0, 63)]) rfl fhp153)
                                         have h154 : sf_rd hp153 a1 8 = some z92.toInt := (ehp153 _ _ (Or.inl (bs_nq (ra1.fr Fhp143) (bs_R.uq Hhp143 (g := 14) rfl) (by decide)))).trans h145
                                         have h155 : sf_rd hp153 7 3 = some z96.toInt := (ehp153 _ _ (Or.inl (by decide))).trans h146
                                         have h156 : sf_rd hp153 28 9 = some z97.toInt := (ehp153 _ _ (Or.inr (by omega))).trans h147
                                         have h157 : sf_rd hp153 28 8 = some z129.toInt := (ehp153 _ _ (Or.inr (by omega))).trans h148
                                         refine bs_iinc (1) rfl rfl rfl rfl (by omega) (by omega) fun z158 hz158 => ?_
                                         exact by
                                          refine (show Ev _ 60 ([some (.ref 7), some (.ref a1), some (.ref 28), some (.int x3), some (.int z1), some (.int z158)], [], (0, 0), hp153) _ from ?_)
                                          refine Ev.step (j := 9) (s' := ([some (.ref 7), some (.ref a1), some (.ref 28), some (.int x3), some (.int z1), some (.int z158)], [], (0, 0), hp153)) rfl rfl ?_
                                          refine ih6 (z158, hp153, thp143) ⟨Hhp153, Fhp153, (by first | omega | assumption), (by first | omega | assumption)⟩ ?_
                                          show (x3.toInt - z158.toInt).toNat < (x3.toInt - k3.toInt).toNat
                                          omega
                               · skip
                                 obtain ⟨fv, xv, yv, hfv, hxv, hyv, f0, f1, f2⟩ := i91 k85.toInt.toNat (by omega) (by omega)
                                 refine Ev.step (j := 69) (s' := ([some (.ref 7), some (.ref a1), some (.ref 28), some (.int z72), some (.int k85)], [.ref 28], (0, 0), hp86)) rfl rfl ?_
                                 exact by
                                  refine bs_getU (g := 14) (g1 := 163) rfl rfl Hhp86 (bs_R.uq Hhp86 (g := 14) rfl) (by decide) rfl rfl ?_
                                  refine Ev.step (j := 74) (s' := ([some (.ref 7), some (.ref a1), some (.ref 28), some (.int z72), some (.int k85)], [.int k85, .ref 29], (0, 0), hp86)) rfl rfl ?_
                                  refine Ev.step (j := 75) (s' := ([some (.ref 7), some (.ref a1), some (.ref 28), some (.int z72), some (.int k85)], [.int z72, .int k85, .ref 29], (0, 0), hp86)) rfl rfl ?_
                                  refine Ev.inlS (L := L_X10_slotOf) (nL := 2) rfl rfl (Nat.le_of_ble_eq_true rfl) ?_
                                  generalize hQ159 : (fun (o : ab_O) => Ev _ _ _ _) = Q159
                                  refine (show Ev (ab_T L_X10_slotOf) 0 ([some (.int k85), some (.int z72)], [], (0, 0), hp86) Q159 from ?_)
                                  refine bs_lit (k := 2) rfl rfl fun z160 hz160 => ?_
                                  refine Ev.step (j := 2) (s' := ([some (.int k85), some (.int z72)], [.int k85, .int z160], (0, 0), hp86)) rfl rfl ?_
                                  refine bs_mul (2) rfl (Or.inl hz160) (by rw [hz160]; omega) (by rw [hz160]; omega) fun z161 hz161 => ?_
                                  rw [hz160] at hz161
                                  refine Ev.step (j := 4) (s' := ([some (.int k85), some (.int z72)], [.int z72, .int z161], (0, 0), hp86)) rfl rfl ?_
                                  first | (refine bs_add rfl (by omega) (by omega) fun z162 hz162 => ?_) | (refine bs_any rfl fun z162 => ?_)
                                  have rz162 := n_range z162
                                  refine Ev.ret rfl rfl ?_
                                  rw [← hQ159]
                                  refine (show Ev _ 78 ([some (.ref 7), some (.ref a1), some (.ref 28), some (.int z72), some (.int k85)], [.int z162, .ref 29], (0, 0), hp86) _ from ?_)
                                  exact by
                                   refine Ev.step (j := 79) (s' := ([some (.ref 7), some (.ref a1), some (.ref 28), some (.int z72), some (.int k85)], [.int z162, .ref 29, .int z162, .ref 29], (0, 0), hp86)) rfl rfl ?_
                                   refine bs_ld (g := 163) 0 11 (0, 999) rfl Hhp86 (bs_R.uq Hhp86 (g := 163) rfl) (by decide) rfl (by decide) (by decide) rfl (by decide) (by omega) (by omega) fun z163 hz163 lz163 gz163 => ?_
                                   dsimp only at lz163 gz163
                                   have exv : z163.toInt = xv := Option.some.inj ((bs_at hz163 (show _ = 2 * k85.toInt.toNat + fr by omega)).symm.trans hxv)
                                   refine Ev.step (j := 81) (s' := ([some (.ref 7), some (.ref a1), some (.ref 28), some (.int z72), some (.int k85)], [.ref 7, .int z163, .int z162, .ref 29], (0, 0), hp86)) rfl rfl ?_
                                   refine bs_getU (g := 1) (g1 := 100) rfl rfl Hhp86 (bs_R.uq Hhp86 (g := 1) rfl) (by decide) rfl rfl ?_
                                   refine Ev.step (j := 86) (s' := ([some (.ref 7), some (.ref a1), some (.ref 28), some (.int z72), some (.int k85)], [.int k85, .ref 8, .int z163, .int z162, .ref 29], (0, 0), hp86)) rfl rfl ?_
                                   refine bs_ld (g := 100) 0 5 (-2147483648, 2147483647) rfl Hhp86 (bs_R.uq Hhp86 (g := 100) rfl) (by decide) rfl (by decide) (by decide) rfl (by decide) (by omega) (by omega) fun z164 hz164 lz164 gz164 => ?_
                                   dsimp only at lz164 gz164
                                   have e165 : z164.toInt = fv := Option.some.inj (hz164.symm.trans hfv)
                                   first | (refine bs_sub rfl (by omega) (by omega) fun z166 hz166 => ?_) | (refine bs_any rfl fun z166 => ?_)
                                   have rz166 := n_range z166
                                   refine bs_st (W := [(163, 0, 11)]) (g := 163) 0 11 (0, 999) rfl Hhp86 (bs_R.uq Hhp86 (g := 163) rfl) (by decide) rfl rfl (by decide) rfl rfl (by omega) (by omega) (by dsimp only; omega) (by dsimp only; omega) fun hp167 Hhp167 fhp167 rhp167 ehp167 qhp167 nhp167 => ?_
                                   have Fhp167 := sf_fr_tr Fhp86 (sf_fr_wider (W := [(1, 2, 3), (14, 7, 9), (100, 0, 5), (101, 0, 5), (163, 0, 11), (165, 0, 11), (166, 0, 11), (167, 0, 7), (168, 0, 7), (169, 0, 63)]) rfl fhp167)
                                   have h168 : sf_rd hp167 28 7 = some z12.toInt := (ehp167 _ _ (Or.inl (by decide))).trans i89
                                   have h169 : sf_rd hp167 a1 8 = some z92.toInt := (ehp167 _ _ (Or.inl (bs_nq (ra1.fr Fhp86) (bs_R.uq Hhp86 (g := 163) rfl) (by decide)))).trans hz92
                                   have h170 : sf_rd hp167 8 k85.toInt.toNat = some fv := (ehp167 _ _ (Or.inl (by decide))).trans hfv
                                   refine Ev.step (j := 90) (s' := ([some (.ref 7), some (.ref a1), some (.ref 28), some (.int z72), some (.int k85)], [.ref 28], (0, 0), hp167)) rfl rfl ?_
                                   exact by
                                    refine bs_getU (g := 14) (g1 := 163) rfl rfl Hhp167 (bs_R.uq Hhp167 (g := 14) rfl) (by decide) rfl rfl ?_
                                    refine Ev.step (j := 95) (s' := ([some (.ref 7), some (.ref a1), some (.ref 28), some (.int z72), some (.int k85)], [.int k85, .ref 29], (0, 0), hp167)) rfl rfl ?_
                                    refine bs_lit (k := 1) rfl rfl fun z171 hz171 => ?_
                                    refine Ev.step (j := 97) (s' := ([some (.ref 7), some (.ref a1), some (.ref 28), some (.int z72), some (.int k85)], [.int z72, .int z171, .int k85, .ref 29], (0, 0), hp167)) rfl rfl ?_
                                    first | (refine bs_sub rfl (by omega) (by omega) fun z172 hz172 => ?_) | (refine bs_any rfl fun z172 => ?_)
                                    have rz172 := n_range z172
                                    refine Ev.inlS (L := L_X10_slotOf) (nL := 2) rfl rfl (Nat.le_of_ble_eq_true rfl) ?_
                                    generalize hQ173 : (fun (o : ab_O) => Ev _ _ _ _) = Q173
                                    refine (show Ev (ab_T L_X10_slotOf) 0 ([some (.int k85), some (.int z172)], [], (0, 0), hp167) Q173 from ?_)
                                    exact by
                                     refine bs_lit (k := 2) rfl rfl fun z174 hz174 => ?_
                                     refine Ev.step (j := 2) (s' := ([some (.int k85), some (.int z172)], [.int k85, .int z174], (0, 0), hp167)) rfl rfl ?_
                                     refine bs_mul (2) rfl (Or.inl hz174) (by rw [hz174]; omega) (by rw [hz174]; omega) fun z175 hz175 => ?_
                                     rw [hz174] at hz175
                                     refine Ev.step (j := 4) (s' := ([some (.int k85), some (.int z172)], [.int z172, .int z175], (0, 0), hp167)) rfl rfl ?_
                                     first | (refine bs_add rfl (by omega) (by omega) fun z176 hz176 => ?_) | (refine bs_any rfl fun z176 => ?_)
                                     have rz176 := n_range z176
                                     refine Ev.ret rfl rfl ?_
                                     rw [← hQ173]
                                     refine (show Ev _ 101 ([some (.ref 7), some (.ref a1), some (.ref 28), some (.int z72), some (.int k85)], [.int z176, .ref 29], (0, 0), hp167) _ from ?_)
                                     exact by
                                      refine Ev.step (j := 102) (s' := ([some (.ref 7), some (.ref a1), some (.ref 28), some (.int z72), some (.int k85)], [.int z176, .ref 29, .int z176, .ref 29], (0, 0), hp167)) rfl rfl ?_
                                      refine bs_ld (g := 163) 0 11 (0, 999) rfl Hhp167 (bs_R.uq Hhp167 (g := 163) rfl) (by decide) rfl (by decide) (by decide) rfl (by decide) (by omega) (by omega) fun z177 hz177 lz177 gz177 => ?_
                                      dsimp only at lz177 gz177
                                      have eyv : z177.toInt = yv := Option.some.inj ((bs_at hz177 (show _ = 2 * k85.toInt.toNat + 1 - fr by omega)).symm.trans ((ehp167 _ _ (Or.inr (by omega))).trans hyv))
                                      refine Ev.step (j := 104) (s' := ([some (.ref 7), some (.ref a1), some (.ref 28), some (.int z72), some (.int k85)], [.ref 7, .int z177, .int z176, .ref 29], (0, 0), hp167)) rfl rfl ?_
                                      refine bs_getU (g := 1) (g1 := 100) rfl rfl Hhp167 (bs_R.uq Hhp167 (g := 1) rfl) (by decide) rfl rfl ?_
                                      refine Ev.step (j := 109) (s' := ([some (.ref 7), some (.ref a1), some (.ref 28), some (.int z72), some (.int k85)], [.int k85, .ref 8, .int z177, .int z176, .ref 29], (0, 0), hp167)) rfl rfl ?_
                                      refine bs_ld (g := 100) 0 5 (-2147483648, 2147483647) rfl Hhp167 (bs_R.uq Hhp167 (g := 100) rfl) (by decide) rfl (by decide) (by decide) rfl (by decide) (by omega) (by omega) fun z178 hz178 lz178 gz178 => ?_
                                      dsimp only at lz178 gz178
                                      have e179 : z178.toInt = fv := Option.some.inj (hz178.symm.trans h170)
                                      first | (refine bs_add rfl (by omega) (by omega) fun z180 hz180 => ?_) | (refine bs_any rfl fun z180 => ?_)
                                      have rz180 := n_range z180
                                      refine bs_st (W := [(163, 0, 11)]) (g := 163) 0 11 (0, 999) rfl Hhp167 (bs_R.uq Hhp167 (g := 163) rfl) (by decide) rfl rfl (by decide) rfl rfl (by omega) (by omega) (by dsimp only; omega) (by dsimp only; omega) fun hp181 Hhp181 fhp181 rhp181 ehp181 qhp181 nhp181 => ?_
                                      have Fhp181 := sf_fr_tr Fhp167 (sf_fr_wider (W := [(1, 2, 3), (14, 7, 9), (100, 0, 5), (101, 0, 5), (163, 0, 11), (165, 0, 11), (166, 0, 11), (167, 0, 7), (168, 0, 7), (169, 0, 63)]) rfl fhp181)
                                      have h182 : sf_rd hp181 28 7 = some z12.toInt := (ehp181 _ _ (Or.inl (by decide))).trans h168
                                      have h183 : sf_rd hp181 a1 8 = some z92.toInt := (ehp181 _ _ (Or.inl (bs_nq (ra1.fr Fhp167) (bs_R.uq Hhp167 (g := 163) rfl) (by decide)))).trans h169
                                      have h184 : sf_rd hp181 8 k85.toInt.toNat = some fv := (ehp181 _ _ (Or.inl (by decide))).trans h170
                                      refine Ev.step (j := 113) (s' := ([some (.ref 7), some (.ref a1), some (.ref 28), some (.int z72), some (.int k85)], [.ref 28], (0, 0), hp181)) rfl rfl ?_
                                      exact by
                                       refine bs_getU (g := 14) (g1 := 166) rfl rfl Hhp181 (bs_R.uq Hhp181 (g := 14) rfl) (by decide) rfl rfl ?_
                                       refine Ev.step (j := 118) (s' := ([some (.ref 7), some (.ref a1), some (.ref 28), some (.int z72), some (.int k85)], [.int k85, .ref 32], (0, 0), hp181)) rfl rfl ?_
                                       refine bs_lit (k := 1) rfl rfl fun z185 hz185 => ?_
                                       refine Ev.step (j := 120) (s' := ([some (.ref 7), some (.ref a1), some (.ref 28), some (.int z72), some (.int k85)], [.int z72, .int z185, .int k85, .ref 32], (0, 0), hp181)) rfl rfl ?_
                                       first | (refine bs_sub rfl (by omega) (by omega) fun z186 hz186 => ?_) | (refine bs_any rfl fun z186 => ?_)
                                       have rz186 := n_range z186
                                       refine Ev.inlS (L := L_X10_slotOf) (nL := 2) rfl rfl (Nat.le_of_ble_eq_true rfl) ?_
                                       generalize hQ187 : (fun (o : ab_O) => Ev _ _ _ _) = Q187
                                       refine (show Ev (ab_T L_X10_slotOf) 0 ([some (.int k85), some (.int z186)], [], (0, 0), hp181) Q187 from ?_)
                                       exact by
                                        refine bs_lit (k := 2) rfl rfl fun z188 hz188 => ?_
                                        refine Ev.step (j := 2) (s' := ([some (.int k85), some (.int z186)], [.int k85, .int z188], (0, 0), hp181)) rfl rfl ?_
                                        refine bs_mul (2) rfl (Or.inl hz188) (by rw [hz188]; omega) (by rw [hz188]; omega) fun z189 hz189 => ?_
                                        rw [hz188] at hz189
                                        refine Ev.step (j := 4) (s' := ([some (.int k85), some (.int z186)], [.int z186, .int z189], (0, 0), hp181)) rfl rfl ?_
                                        first | (refine bs_add rfl (by omega) (by omega) fun z190 hz190 => ?_) | (refine bs_any rfl fun z190 => ?_)
                                        have rz190 := n_range z190
                                        refine Ev.ret rfl rfl ?_
                                        rw [← hQ187]
                                        refine (show Ev _ 124 ([some (.ref 7), some (.ref a1), some (.ref 28), some (.int z72), some (.int k85)], [.int z190, .ref 32], (0, 0), hp181) _ from ?_)
                                        exact by
                                         refine Ev.step (j := 125) (s' := ([some (.ref 7), some (.ref a1), some (.ref 28), some (.int z72), some (.int k85)], [.int z190, .ref 32, .int z190, .ref 32], (0, 0), hp181)) rfl rfl ?_
                                         refine bs_ld (g := 166) 0 11 (-2147483648, 2147483647) rfl Hhp181 (bs_R.uq Hhp181 (g := 166) rfl) (by decide) rfl (by decide) (by decide) rfl (by decide) (by omega) (by omega) fun z191 hz191 lz191 gz191 => ?_
                                         dsimp only at lz191 gz191
                                         refine Ev.step (j := 127) (s' := ([some (.ref 7), some (.ref a1), some (.ref 28), some (.int z72), some (.int k85)], [.ref 7, .int z191, .int z190, .ref 32], (0, 0), hp181)) rfl rfl ?_
                                         refine bs_getU (g := 1) (g1 := 100) rfl rfl Hhp181 (bs_R.uq Hhp181 (g := 1) rfl) (by decide) rfl rfl ?_
                                         refine Ev.step (j := 132) (s' := ([some (.ref 7), some (.ref a1), some (.ref 28), some (.int z72), some (.int k85)], [.int k85, .ref 8, .int z191, .int z190, .ref 32], (0, 0), hp181)) rfl rfl ?_
                                         refine bs_ld (g := 100) 0 5 (-2147483648, 2147483647) rfl Hhp181 (bs_R.uq Hhp181 (g := 100) rfl) (by decide) rfl (by decide) (by decide) rfl (by decide) (by omega) (by omega) fun z192 hz192 lz192 gz192 => ?_
                                         dsimp only at lz192 gz192
                                         have e193 : z192.toInt = fv := Option.some.inj (hz192.symm.trans h184)
                                         first | (refine bs_add rfl (by omega) (by omega) fun z194 hz194 => ?_) | (refine bs_any rfl fun z194 => ?_)
                                         have rz194 := n_range z194
                                         refine bs_st (W := [(166, 0, 11)]) (g := 166) 0 11 (-2147483648, 2147483647) rfl Hhp181 (bs_R.uq Hhp181 (g := 166) rfl) (by decide) rfl rfl (by decide) rfl rfl (by omega) (by omega) (by dsimp only; omega) (by dsimp only; omega) fun hp195 Hhp195 fhp195 rhp195 ehp195 qhp195 nhp195 => ?_
                                         have Fhp195 := sf_fr_tr Fhp181 (sf_fr_wider (W := [(1, 2, 3), (14, 7, 9), (100, 0, 5), (101, 0, 5), (163, 0, 11), (165, 0, 11), (166, 0, 11), (167, 0, 7), (168, 0, 7), (169, 0, 63)]) rfl fhp195)
                                         have h196 : sf_rd hp195 28 7 = some z12.toInt := (ehp195 _ _ (Or.inl (by decide))).trans h182
                                         have h197 : sf_rd hp195 a1 8 = some z92.toInt := (ehp195 _ _ (Or.inl (bs_nq (ra1.fr Fhp181) (bs_R.uq Hhp181 (g := 166) rfl) (by decide)))).trans h183
                                         have h198 : sf_rd hp195 8 k85.toInt.toNat = some fv := (ehp195 _ _ (Or.inl (by decide))).trans h184
                                         have h199 : sf_rd hp195 29 z176.toInt.toNat = some z180.toInt := (ehp195 _ _ (Or.inl (by decide))).trans rhp181
                                         refine bs_iinc (1) rfl rfl rfl rfl (by omega) (by omega) fun z200 hz200 => ?_
                                         exact by
                                          refine (show Ev _ 138 ([some (.ref 7), some (.ref a1), some (.ref 28), some (.int z72), some (.int z200)], [], (0, 0), hp195) _ from ?_)
                                          refine Ev.step (j := 59) (s' := ([some (.ref 7), some (.ref a1), some (.ref 28), some (.int z72), some (.int z200)], [], (0, 0), hp195)) rfl rfl ?_
                                          have FR3 : ∀ q : Nat, z200.toInt ≤ (q : Int) → (q : Int) < G → fr_ok hp195 29 fr q := fun q h1 h2 => fr_ok_same (i91 q (by omega) h2) ((ehp195 _ _ (Or.inl (by decide))).trans ((ehp181 _ _ (Or.inl (by decide))).trans (ehp167 _ _ (Or.inl (by decide))))) ((ehp195 _ _ (Or.inl (by decide))).trans ((ehp181 _ _ (Or.inr (by omega))).trans (ehp167 _ _ (Or.inr (by omega))))) ((ehp195 _ _ (Or.inl (by decide))).trans ((ehp181 _ _ (Or.inr (by omega))).trans (ehp167 _ _ (Or.inr (by omega)))))
                                          refine ih88 (z200, hp195, t87) ⟨Hhp195, Fhp195, h196, (by first | omega | assumption), (by first | exact FR3 | exact fun q _ hq => i80 q hq)⟩ ?_
                                          show (6 - z200.toInt).toNat < (6 - k85.toInt).toNat
                                          omega
                            · skip
                              refine Ev.step (j := 18) (s' := ([some (.ref 7), some (.ref a1), some (.ref 28), some (.int z72), some (.int k74)], [.ref 7], (0, 0), hp75)) rfl rfl ?_
                              exact by
                               refine bs_getI 1 rfl rfl rfl Hhp75 (bs_R.uq Hhp75 (g := 1) rfl) (by decide) rfl fun z201 hz201 lz201 gz201 => ?_
                               refine bs_lit (k := 1) rfl rfl fun z202 hz202 => ?_
                               refine Ev.step (j := 24) (s' := ([some (.ref 7), some (.ref a1), some (.ref 28), some (.int z72), some (.int k74)], [.int k74, .int z202, .int z201], (0, 0), hp75)) rfl rfl ?_
                               refine bs_any rfl fun z203 => ?_
                               have rz203 := n_range z203
                               refine bs_any rfl fun z204 => ?_
                               have rz204 := n_range z204
                               refine bs_ifeq rfl (fun c205 => ?_) (fun c205 => ?_)
                               · skip
                                 have c206 : z204.toInt = 0 := by omega
                                 refine bs_iinc (1) rfl rfl rfl rfl (by omega) (by omega) fun z207 hz207 => ?_
                                 exact by
                                  refine (show Ev _ 53 ([some (.ref 7), some (.ref a1), some (.ref 28), some (.int z72), some (.int z207)], [], (0, 0), hp75) _ from ?_)
                                  refine Ev.step (j := 8) (s' := ([some (.ref 7), some (.ref a1), some (.ref 28), some (.int z72), some (.int z207)], [], (0, 0), hp75)) rfl rfl ?_
                                  have FR2 : ∀ q : Nat, (q : Int) < G → fr_ok hp75 29 fr q := fun q hq => fr_ok_same (i80 q hq) rfl rfl rfl
                                  refine ih77 (z207, hp75, t76) ⟨Hhp75, Fhp75, i78, (by first | omega | assumption), (by first | exact FR2 | exact FR)⟩ ?_
                                  show (8 - z207.toInt).toNat < (8 - k74.toInt).toNat
                                  omega
                               · skip
                                 refine Ev.step (j := 30) (s' := ([some (.ref 7), some (.ref a1), some (.ref 28), some (.int z72), some (.int k74)], [.ref 28], (0, 0), hp75)) rfl rfl ?_
                                 exact by
                                  refine bs_getU (g := 14) (g1 := 167) rfl rfl Hhp75 (bs_R.uq Hhp75 (g := 14) rfl) (by decide) rfl rfl ?_
                                  refine Ev.step (j := 35) (s' := ([some (.ref 7), some (.ref a1), some (.ref 28), some (.int z72), some (.int k74)], [.int k74, .ref 33], (0, 0), hp75)) rfl rfl ?_
                                  refine bs_lit (k := 1) rfl rfl fun z208 hz208 => ?_
                                  refine Ev.step (j := 37) (s' := ([some (.ref 7), some (.ref a1), some (.ref 28), some (.int z72), some (.int k74)], [.int z72, .int z208, .int k74, .ref 33], (0, 0), hp75)) rfl rfl ?_
                                  first | (refine bs_sub rfl (by omega) (by omega) fun z209 hz209 => ?_) | (refine bs_any rfl fun z209 => ?_)
                                  have rz209 := n_range z209
                                  refine bs_st (W := [(167, 0, 7)]) (g := 167) 0 7 (-2147483648, 2147483647) rfl Hhp75 (bs_R.uq Hhp75 (g := 167) rfl) (by decide) rfl rfl (by decide) rfl rfl (by omega) (by omega) (by dsimp only; omega) (by dsimp only; omega) fun hp210 Hhp210 fhp210 rhp210 ehp210 qhp210 nhp210 => ?_
                                  have Fhp210 := sf_fr_tr Fhp75 (sf_fr_wider (W := [(1, 2, 3), (14, 7, 9), (100, 0, 5), (101, 0, 5), (163, 0, 11), (165, 0, 11), (166, 0, 11), (167, 0, 7), (168, 0, 7), (169, 0, 63)]) rfl fhp210)
                                  have h211 : sf_rd hp210 28 7 = some z12.toInt := (ehp210 _ _ (Or.inl (by decide))).trans i78
                                  have h212 : sf_rd hp210 a1 9 = some z81.toInt := (ehp210 _ _ (Or.inl (bs_nq (ra1.fr Fhp75) (bs_R.uq Hhp75 (g := 167) rfl) (by decide)))).trans hz81
                                  have h213 : sf_rd hp210 7 2 = some z201.toInt := (ehp210 _ _ (Or.inl (by decide))).trans hz201
                                  refine Ev.step (j := 40) (s' := ([some (.ref 7), some (.ref a1), some (.ref 28), some (.int z72), some (.int k74)], [.ref 28], (0, 0), hp210)) rfl rfl ?_
                                  exact by
                                   refine bs_getU (g := 14) (g1 := 168) rfl rfl Hhp210 (bs_R.uq Hhp210 (g := 14) rfl) (by decide) rfl rfl ?_
                                   refine Ev.step (j := 45) (s' := ([some (.ref 7), some (.ref a1), some (.ref 28), some (.int z72), some (.int k74)], [.int k74, .ref 34], (0, 0), hp210)) rfl rfl ?_
                                   refine Ev.step (j := 46) (s' := ([some (.ref 7), some (.ref a1), some (.ref 28), some (.int z72), some (.int k74)], [.int k74, .ref 34, .int k74, .ref 34], (0, 0), hp210)) rfl rfl ?_
                                   refine bs_ld (g := 168) 0 7 (-2147483648, 2147483647) rfl Hhp210 (bs_R.uq Hhp210 (g := 168) rfl) (by decide) rfl (by decide) (by decide) rfl (by decide) (by omega) (by omega) fun z214 hz214 lz214 gz214 => ?_
                                   dsimp only at lz214 gz214
                                   refine bs_lit (k := 1) rfl rfl fun z215 hz215 => ?_
                                   first | (refine bs_add rfl (by omega) (by omega) fun z216 hz216 => ?_) | (refine bs_any rfl fun z216 => ?_)
                                   have rz216 := n_range z216
                                   refine bs_st (W := [(168, 0, 7)]) (g := 168) 0 7 (-2147483648, 2147483647) rfl Hhp210 (bs_R.uq Hhp210 (g := 168) rfl) (by decide) rfl rfl (by decide) rfl rfl (by omega) (by omega) (by dsimp only; omega) (by dsimp only; omega) fun hp217 Hhp217 fhp217 rhp217 ehp217 qhp217 nhp217 => ?_
                                   have Fhp217 := sf_fr_tr Fhp210 (sf_fr_wider (W := [(1, 2, 3), (14, 7, 9), (100, 0, 5), (101, 0, 5), (163, 0, 11), (165, 0, 11), (166, 0, 11), (167, 0, 7), (168, 0, 7), (169, 0, 63)]) rfl fhp217)
                                   have h218 : sf_rd hp217 28 7 = some z12.toInt := (ehp217 _ _ (Or.inl (by decide))).trans h211
                                   have h219 : sf_rd hp217 a1 9 = some z81.toInt := (ehp217 _ _ (Or.inl (bs_nq (ra1.fr Fhp210) (bs_R.uq Hhp210 (g := 168) rfl) (by decide)))).trans h212
                                   have h220 : sf_rd hp217 7 2 = some z201.toInt := (ehp217 _ _ (Or.inl (by decide))).trans h213
                                   have h221 : sf_rd hp217 33 k74.toInt.toNat = some z209.toInt := (ehp217 _ _ (Or.inl (by decide))).trans rhp210
                                   refine bs_iinc (1) rfl rfl rfl rfl (by omega) (by omega) fun z222 hz222 => ?_
                                   exact by
                                    refine (show Ev _ 53 ([some (.ref 7), some (.ref a1), some (.ref 28), some (.int z72), some (.int z222)], [], (0, 0), hp217) _ from ?_)
                                    refine Ev.step (j := 8) (s' := ([some (.ref 7), some (.ref a1), some (.ref 28), some (.int z72), some (.int z222)], [], (0, 0), hp217)) rfl rfl ?_
                                    have FR2 : ∀ q : Nat, (q : Int) < G → fr_ok hp217 29 fr q := fun q hq => fr_ok_same (i80 q hq) ((ehp217 _ _ (Or.inl (by decide))).trans (ehp210 _ _ (Or.inl (by decide)))) ((ehp217 _ _ (Or.inl (by decide))).trans (ehp210 _ _ (Or.inl (by decide)))) ((ehp217 _ _ (Or.inl (by decide))).trans (ehp210 _ _ (Or.inl (by decide))))
                                    refine ih77 (z222, hp217, t76) ⟨Hhp217, Fhp217, h218, (by first | omega | assumption), (by first | exact FR2 | exact FR)⟩ ?_
                                    show (8 - z222.toInt).toNat < (8 - k74.toInt).toNat
                                    omega
                       · skip
                         refine Ev.step (j := 128) (s' := ([some (.ref 7), some (.ref a1), some (.ref 28), some (.int z23), some (.int z28), some (.int z40), some (.int k56), o59], [.ref 28], (0, 0), hp57)) rfl rfl ?_
                         exact by
                          refine Ev.step (j := 129) (s' := ([some (.ref 7), some (.ref a1), some (.ref 28), some (.int z23), some (.int z28), some (.int z40), some (.int k56), o59], [.ref a1, .ref 28], (0, 0), hp57)) rfl rfl ?_
                          refine Ev.step (j := 131) (s' := ([some (.ref 7), some (.ref a1), some (.ref 28), some (.int z23), some (.int z28), some (.int z40), some (.int k56), o59], [.int k56, .ref a1, .ref 28], (0, 0), hp57)) rfl rfl ?_
                          refine bs_lit (k := 1) rfl rfl fun z223 hz223 => ?_
                          refine Ev.step (j := 133) (s' := ([some (.ref 7), some (.ref a1), some (.ref 28), some (.int z23), some (.int z28), some (.int z40), some (.int k56), o59], [.int z23, .int z223, .int k56, .ref a1, .ref 28], (0, 0), hp57)) rfl rfl ?_
                          first | (refine bs_sub rfl (by omega) (by omega) fun z224 hz224 => ?_) | (refine bs_any rfl fun z224 => ?_)
                          have rz224 := n_range z224
                          refine Ev.inlS (L := L_X10_slotOf) (nL := 2) rfl rfl (Nat.le_of_ble_eq_true rfl) ?_
                          generalize hQ225 : (fun (o : ab_O) => Ev _ _ _ _) = Q225
                          refine (show Ev (ab_T L_X10_slotOf) 0 ([some (.int k56), some (.int z224)], [], (0, 0), hp57) Q225 from ?_)
                          exact by
                           refine bs_lit (k := 2) rfl rfl fun z226 hz226 => ?_
                           refine Ev.step (j := 2) (s' := ([some (.int k56), some (.int z224)], [.int k56, .int z226], (0, 0), hp57)) rfl rfl ?_
                           refine bs_mul (2) rfl (Or.inl hz226) (by rw [hz226]; omega) (by rw [hz226]; omega) fun z227 hz227 => ?_
                           rw [hz226] at hz227
                           refine Ev.step (j := 4) (s' := ([some (.int k56), some (.int z224)], [.int z224, .int z227], (0, 0), hp57)) rfl rfl ?_
                           first | (refine bs_add rfl (by omega) (by omega) fun z228 hz228 => ?_) | (refine bs_any rfl fun z228 => ?_)
                           have rz228 := n_range z228
                           refine Ev.ret rfl rfl ?_
                           rw [← hQ225]
                           refine (show Ev _ 137 ([some (.ref 7), some (.ref a1), some (.ref 28), some (.int z23), some (.int z28), some (.int z40), some (.int k56), o59], [.int z228, .ref a1, .ref 28], (0, 0), hp57) _ from ?_)
                           exact by
                            refine Ev.inl (L := (L_X6_lackAt Z_X7_amountOf)) (nL := 3) rfl (bs_rcv (g := 14) Hhp57 (bs_R.uq Hhp57 (g := 14) rfl) (by decide) rfl) rfl (Nat.le_of_ble_eq_true rfl) ?_
                            generalize hQ229 : (fun (o : ab_O) => Ev _ _ _ _) = Q229
                            refine (show Ev (ab_T (L_X6_lackAt Z_X7_amountOf)) 0 ([some (.ref 28), some (.ref a1), some (.int z228)], [], (0, 0), hp57) Q229 from ?_)
                            refine bs_lit (k := 0) rfl rfl fun z230 hz230 => ?_
                            refine Ev.step (j := 2) (s' := ([some (.ref 28), some (.ref a1), some (.int z228)], [.ref a1, .int z230], (0, 0), hp57)) rfl rfl ?_
                            refine bs_lit (k := 1) rfl rfl fun z231 hz231 => ?_
                            refine Ev.step (j := 4) (s' := ([some (.ref 28), some (.ref a1), some (.int z228)], [.int z228, .int z231, .ref a1, .int z230], (0, 0), hp57)) rfl rfl ?_
                            refine Ev.inl (L := L_X7_amountOf) (nL := 3) rfl (bs_rcv (g := 7) Hhp57 (ra1.fr Fhp57) (by decide) rfl) rfl (Nat.le_of_ble_eq_true rfl) ?_
                            generalize hQ232 : (fun (o : ab_O) => Ev _ _ _ _) = Q232
                            refine (show Ev (ab_T L_X7_amountOf) 0 ([some (.ref a1), some (.int z231), some (.int z228)], [], (0, 0), hp57) Q232 from ?_)
                            exact by
                             refine Ev.step (j := 1) (s' := ([some (.ref a1), some (.int z231), some (.int z228)], [.ref a1], (0, 0), hp57)) rfl rfl ?_
                             refine bs_getR (g := 7) (g1 := 119) rfl rfl Hhp57 (ra1.fr Fhp57) (by decide) rfl fun b233 qb233 rb233 => ?_
                             refine Ev.step (j := 5) (s' := ([some (.ref a1), some (.int z231), some (.int z228)], [.int z231, .ref b233], (0, 0), hp57)) rfl rfl ?_
                             refine bs_lit (k := 12) rfl rfl fun z234 hz234 => ?_
                             refine bs_mul (12) rfl (Or.inr hz234) (by rw [hz234]; omega) (by rw [hz234]; omega) fun z235 hz235 => ?_
                             rw [hz234] at hz235
                             refine Ev.step (j := 9) (s' := ([some (.ref a1), some (.int z231), some (.int z228)], [.int z228, .int z235, .ref b233], (0, 0), hp57)) rfl rfl ?_
                             first | (refine bs_add rfl (by omega) (by omega) fun z236 hz236 => ?_) | (refine bs_any rfl fun z236 => ?_)
                             have rz236 := n_range z236
                             refine bs_ld (g := 119) 12 23 (0, 250) rfl Hhp57 rb233 (by decide) rfl (by decide) (by decide) rfl (by decide) (by omega) (by omega) fun z237 hz237 lz237 gz237 => ?_
                             dsimp only at lz237 gz237
                             refine Ev.ret rfl rfl ?_
                             rw [← hQ232]
                             refine (show Ev _ 7 ([some (.ref 28), some (.ref a1), some (.int z228)], [.int z237, .int z230], (0, 0), hp57) _ from ?_)
                             exact by
                              refine Ev.step (j := 8) (s' := ([some (.ref 28), some (.ref a1), some (.int z228)], [.ref 28, .int z237, .int z230], (0, 0), hp57)) rfl rfl ?_
                              refine bs_getU (g := 14) (g1 := 163) rfl rfl Hhp57 (bs_R.uq Hhp57 (g := 14) rfl) (by decide) rfl rfl ?_
                              refine Ev.step (j := 12) (s' := ([some (.ref 28), some (.ref a1), some (.int z228)], [.int z228, .ref 29, .int z237, .int z230], (0, 0), hp57)) rfl rfl ?_
                              refine bs_ld (g := 163) 0 11 (0, 999) rfl Hhp57 (bs_R.uq Hhp57 (g := 163) rfl) (by decide) rfl (by decide) (by decide) rfl (by decide) (by omega) (by omega) fun z238 hz238 lz238 gz238 => ?_
                              dsimp only at lz238 gz238
                              first | (refine bs_sub rfl (by omega) (by omega) fun z239 hz239 => ?_) | (refine bs_any rfl fun z239 => ?_)
                              have rz239 := n_range z239
                              refine bs_max rfl rfl fun z240 hz240 => ?_
                              refine Ev.ret rfl rfl ?_
                              rw [← hQ229]
                              refine (show Ev _ 140 ([some (.ref 7), some (.ref a1), some (.ref 28), some (.int z23), some (.int z28), some (.int z40), some (.int k56), o59], [.int z240], (0, 0), hp57) _ from ?_)
                              exact by
                               refine Ev.step (j := 142) (s' := ([some (.ref 7), some (.ref a1), some (.ref 28), some (.int z23), some (.int z28), some (.int z40), some (.int k56), some (.int z240)], [], (0, 0), hp57)) rfl rfl ?_
                               refine Ev.step (j := 143) (s' := ([some (.ref 7), some (.ref a1), some (.ref 28), some (.int z23), some (.int z28), some (.int z40), some (.int k56), some (.int z240)], [.ref 7], (0, 0), hp57)) rfl rfl ?_
                               refine bs_getU (g := 1) (g1 := 101) rfl rfl Hhp57 (bs_R.uq Hhp57 (g := 1) rfl) (by decide) rfl rfl ?_
                               refine Ev.step (j := 148) (s' := ([some (.ref 7), some (.ref a1), some (.ref 28), some (.int z23), some (.int z28), some (.int z40), some (.int k56), some (.int z240)], [.int k56, .ref 9], (0, 0), hp57)) rfl rfl ?_
                               refine Ev.step (j := 150) (s' := ([some (.ref 7), some (.ref a1), some (.ref 28), some (.int z23), some (.int z28), some (.int z40), some (.int k56), some (.int z240)], [.int z28, .int k56, .ref 9], (0, 0), hp57)) rfl rfl ?_
                               refine Ev.step (j := 151) (s' := ([some (.ref 7), some (.ref a1), some (.ref 28), some (.int z23), some (.int z28), some (.int z40), some (.int k56), some (.int z240)], [.ref 7, .int z28, .int k56, .ref 9], (0, 0), hp57)) rfl rfl ?_
                               refine bs_getI 1 rfl rfl rfl Hhp57 (bs_R.uq Hhp57 (g := 1) rfl) (by decide) rfl fun z241 hz241 lz241 gz241 => ?_
                               first | (refine bs_sub rfl (by omega) (by omega) fun z242 hz242 => ?_) | (refine bs_any rfl fun z242 => ?_)
                               have rz242 := n_range z242
                               refine bs_st (W := [(101, 0, 5)]) (g := 101) 0 5 (-2147483648, 2147483647) rfl Hhp57 (bs_R.uq Hhp57 (g := 101) rfl) (by decide) rfl rfl (by decide) rfl rfl (by omega) (by omega) (by dsimp only; omega) (by dsimp only; omega) fun hp243 Hhp243 fhp243 rhp243 ehp243 qhp243 nhp243 => ?_
                               have Fhp243 := sf_fr_tr Fhp57 (sf_fr_wider (W := [(1, 2, 3), (14, 7, 9), (100, 0, 5), (101, 0, 5), (163, 0, 11), (165, 0, 11), (166, 0, 11), (167, 0, 7), (168, 0, 7), (169, 0, 63)]) rfl fhp243)
                               have h244 : sf_rd hp243 28 7 = some z12.toInt := (ehp243 _ _ (Or.inl (by decide))).trans i61
                               have h245 : sf_rd hp243 a1 8 = some z64.toInt := (ehp243 _ _ (Or.inl (bs_nq (ra1.fr Fhp57) (bs_R.uq Hhp57 (g := 101) rfl) (by decide)))).trans hz64
                               have h246 : sf_rd hp243 b233 z236.toInt.toNat = some z237.toInt := (ehp243 _ _ (Or.inl (bs_nq rb233 (bs_R.uq Hhp57 (g := 101) rfl) (by decide)))).trans hz237
                               have h247 : sf_rd hp243 29 z228.toInt.toNat = some z238.toInt := (ehp243 _ _ (Or.inl (by decide))).trans hz238
                               have h248 : sf_rd hp243 7 3 = some z241.toInt := (ehp243 _ _ (Or.inl (by decide))).trans hz241
                               have r249 := rb233.fr fhp243
                               refine Ev.step (j := 157) (s' := ([some (.ref 7), some (.ref a1), some (.ref 28), some (.int z23), some (.int z28), some (.int z40), some (.int k56), some (.int z240)], [.ref 7], (0, 0), hp243)) rfl rfl ?_
                               exact by
                                refine bs_getU (g := 1) (g1 := 100) rfl rfl Hhp243 (bs_R.uq Hhp243 (g := 1) rfl) (by decide) rfl rfl ?_
                                refine Ev.step (j := 162) (s' := ([some (.ref 7), some (.ref a1), some (.ref 28), some (.int z23), some (.int z28), some (.int z40), some (.int k56), some (.int z240)], [.int k56, .ref 8], (0, 0), hp243)) rfl rfl ?_
                                refine Ev.step (j := 163) (s' := ([some (.ref 7), some (.ref a1), some (.ref 28), some (.int z23), some (.int z28), some (.int z40), some (.int k56), some (.int z240)], [.ref 28, .int k56, .ref 8], (0, 0), hp243)) rfl rfl ?_
                                refine bs_getU (g := 14) (g1 := 163) rfl rfl Hhp243 (bs_R.uq Hhp243 (g := 14) rfl) (by decide) rfl rfl ?_
                                refine Ev.step (j := 168) (s' := ([some (.ref 7), some (.ref a1), some (.ref 28), some (.int z23), some (.int z28), some (.int z40), some (.int k56), some (.int z240)], [.int k56, .ref 29, .int k56, .ref 8], (0, 0), hp243)) rfl rfl ?_
                                refine Ev.step (j := 169) (s' := ([some (.ref 7), some (.ref a1), some (.ref 28), some (.int z23), some (.int z28), some (.int z40), some (.int k56), some (.int z240)], [.int z23, .int k56, .ref 29, .int k56, .ref 8], (0, 0), hp243)) rfl rfl ?_
                                refine Ev.inlS (L := L_X10_slotOf) (nL := 2) rfl rfl (Nat.le_of_ble_eq_true rfl) ?_
                                generalize hQ250 : (fun (o : ab_O) => Ev _ _ _ _) = Q250
                                refine (show Ev (ab_T L_X10_slotOf) 0 ([some (.int k56), some (.int z23)], [], (0, 0), hp243) Q250 from ?_)
                                exact by
                                 refine bs_lit (k := 2) rfl rfl fun z251 hz251 => ?_
                                 refine Ev.step (j := 2) (s' := ([some (.int k56), some (.int z23)], [.int k56, .int z251], (0, 0), hp243)) rfl rfl ?_
                                 refine bs_mul (2) rfl (Or.inl hz251) (by rw [hz251]; omega) (by rw [hz251]; omega) fun z252 hz252 => ?_
                                 rw [hz251] at hz252
                                 refine Ev.step (j := 4) (s' := ([some (.int k56), some (.int z23)], [.int z23, .int z252], (0, 0), hp243)) rfl rfl ?_
                                 first | (refine bs_add rfl (by omega) (by omega) fun z253 hz253 => ?_) | (refine bs_any rfl fun z253 => ?_)
                                 have rz253 := n_range z253
                                 refine Ev.ret rfl rfl ?_
                                 rw [← hQ250]
                                 refine (show Ev _ 172 ([some (.ref 7), some (.ref a1), some (.ref 28), some (.int z23), some (.int z28), some (.int z40), some (.int k56), some (.int z240)], [.int z253, .ref 29, .int k56, .ref 8], (0, 0), hp243) _ from ?_)
                                 exact by
                                  refine bs_ld (g := 163) 0 11 (0, 999) rfl Hhp243 (bs_R.uq Hhp243 (g := 163) rfl) (by decide) rfl (by decide) (by decide) rfl (by decide) (by omega) (by omega) fun z254 hz254 lz254 gz254 => ?_
                                  dsimp only at lz254 gz254
                                  refine Ev.step (j := 175) (s' := ([some (.ref 7), some (.ref a1), some (.ref 28), some (.int z23), some (.int z28), some (.int z40), some (.int k56), some (.int z240)], [.int z240, .int z254, .int k56, .ref 8], (0, 0), hp243)) rfl rfl ?_
                                  refine Ev.step (j := 176) (s' := ([some (.ref 7), some (.ref a1), some (.ref 28), some (.int z23), some (.int z28), some (.int z40), some (.int k56), some (.int z240)], [.ref 7, .int z240, .int z254, .int k56, .ref 8], (0, 0), hp243)) rfl rfl ?_
                                  refine bs_getU (g := 1) (g1 := 101) rfl rfl Hhp243 (bs_R.uq Hhp243 (g := 1) rfl) (by decide) rfl rfl ?_
                                  refine Ev.step (j := 181) (s' := ([some (.ref 7), some (.ref a1), some (.ref 28), some (.int z23), some (.int z28), some (.int z40), some (.int k56), some (.int z240)], [.int k56, .ref 9, .int z240, .int z254, .int k56, .ref 8], (0, 0), hp243)) rfl rfl ?_
                                  refine bs_ld (g := 101) 0 5 (-2147483648, 2147483647) rfl Hhp243 (bs_R.uq Hhp243 (g := 101) rfl) (by decide) rfl (by decide) (by decide) rfl (by decide) (by omega) (by omega) fun z255 hz255 lz255 gz255 => ?_
                                  dsimp only at lz255 gz255
                                  have e256 : z255.toInt = z242.toInt := Option.some.inj (hz255.symm.trans rhp243)
                                  refine Ev.inlS (L := L_X1_amountMoved) (nL := 3) rfl rfl (Nat.le_of_ble_eq_true rfl) ?_
                                  generalize hQ257 : (fun (o : ab_O) => Ev _ _ _ _) = Q257
                                  refine (show Ev (ab_T L_X1_amountMoved) 0 ([some (.int z254), some (.int z240), some (.int z255)], [], (0, 0), hp243) Q257 from ?_)
                                  exact by
                                   refine bs_lit (k := 0) rfl rfl fun z258 hz258 => ?_
                                   refine Ev.step (j := 2) (s' := ([some (.int z254), some (.int z240), some (.int z255)], [.int z254, .int z258], (0, 0), hp243)) rfl rfl ?_
                                   refine Ev.step (j := 3) (s' := ([some (.int z254), some (.int z240), some (.int z255)], [.int z240, .int z254, .int z258], (0, 0), hp243)) rfl rfl ?_
                                   refine Ev.step (j := 4) (s' := ([some (.int z254), some (.int z240), some (.int z255)], [.int z255, .int z240, .int z254, .int z258], (0, 0), hp243)) rfl rfl ?_
                                   refine bs_min rfl rfl fun z259 hz259 => ?_
                                   refine bs_min rfl rfl fun z260 hz260 => ?_
                                   refine bs_max rfl rfl fun z261 hz261 => ?_
                                   refine Ev.ret rfl rfl ?_
                                   rw [← hQ257]
                                   refine (show Ev _ 185 ([some (.ref 7), some (.ref a1), some (.ref 28), some (.int z23), some (.int z28), some (.int z40), some (.int k56), some (.int z240)], [.int z261, .int k56, .ref 8], (0, 0), hp243) _ from ?_)
                                   exact by
                                    refine bs_st (W := [(100, 0, 5)]) (g := 100) 0 5 (-2147483648, 2147483647) rfl Hhp243 (bs_R.uq Hhp243 (g := 100) rfl) (by decide) rfl rfl (by decide) rfl rfl (by omega) (by omega) (by dsimp only; omega) (by dsimp only; omega) fun hp262 Hhp262 fhp262 rhp262 ehp262 qhp262 nhp262 => ?_
                                    have Fhp262 := sf_fr_tr Fhp243 (sf_fr_wider (W := [(1, 2, 3), (14, 7, 9), (100, 0, 5), (101, 0, 5), (163, 0, 11), (165, 0, 11), (166, 0, 11), (167, 0, 7), (168, 0, 7), (169, 0, 63)]) rfl fhp262)
                                    have h263 : sf_rd hp262 28 7 = some z12.toInt := (ehp262 _ _ (Or.inl (by decide))).trans h244
                                    have h264 : sf_rd hp262 a1 8 = some z64.toInt := (ehp262 _ _ (Or.inl (bs_nq (ra1.fr Fhp243) (bs_R.uq Hhp243 (g := 100) rfl) (by decide)))).trans h245
                                    have h265 : sf_rd hp262 b233 z236.toInt.toNat = some z237.toInt := (ehp262 _ _ (Or.inl (bs_nq r249 (bs_R.uq Hhp243 (g := 100) rfl) (by decide)))).trans h246
                                    have h266 : sf_rd hp262 29 z228.toInt.toNat = some z238.toInt := (ehp262 _ _ (Or.inl (by decide))).trans h247
                                    have h267 : sf_rd hp262 7 3 = some z241.toInt := (ehp262 _ _ (Or.inl (by decide))).trans h248
                                    have h268 : sf_rd hp262 9 k56.toInt.toNat = some z242.toInt := (ehp262 _ _ (Or.inl (by decide))).trans rhp243
                                    have h269 : sf_rd hp262 29 z253.toInt.toNat = some z254.toInt := (ehp262 _ _ (Or.inl (by decide))).trans hz254
                                    have r270 := r249.fr fhp262
                                    refine Ev.step (j := 187) (s' := ([some (.ref 7), some (.ref a1), some (.ref 28), some (.int z23), some (.int z28), some (.int z40), some (.int k56), some (.int z240)], [.ref 7], (0, 0), hp262)) rfl rfl ?_
                                    exact by
                                     refine Ev.step (j := 188) (s' := ([some (.ref 7), some (.ref a1), some (.ref 28), some (.int z23), some (.int z28), some (.int z40), some (.int k56), some (.int z240)], [.ref 7, .ref 7], (0, 0), hp262)) rfl rfl ?_
                                     refine bs_getI 1 rfl rfl rfl Hhp262 (bs_R.uq Hhp262 (g := 1) rfl) (by decide) rfl fun z271 hz271 lz271 gz271 => ?_
                                     have e272 : z271.toInt = z241.toInt := Option.some.inj (hz271.symm.trans h267)
                                     refine Ev.step (j := 192) (s' := ([some (.ref 7), some (.ref a1), some (.ref 28), some (.int z23), some (.int z28), some (.int z40), some (.int k56), some (.int z240)], [.ref 7, .int z271, .ref 7], (0, 0), hp262)) rfl rfl ?_
                                     refine bs_getU (g := 1) (g1 := 100) rfl rfl Hhp262 (bs_R.uq Hhp262 (g := 1) rfl) (by decide) rfl rfl ?_
                                     refine Ev.step (j := 197) (s' := ([some (.ref 7), some (.ref a1), some (.ref 28), some (.int z23), some (.int z28), some (.int z40), some (.int k56), some (.int z240)], [.int k56, .ref 8, .int z271, .ref 7], (0, 0), hp262)) rfl rfl ?_
                                     refine bs_ld (g := 100) 0 5 (-2147483648, 2147483647) rfl Hhp262 (bs_R.uq Hhp262 (g := 100) rfl) (by decide) rfl (by decide) (by decide) rfl (by decide) (by omega) (by omega) fun z273 hz273 lz273 gz273 => ?_
                                     dsimp only at lz273 gz273
                                     have e274 : z273.toInt = z261.toInt := Option.some.inj (hz273.symm.trans rhp262)
                                     first | (refine bs_add rfl (by omega) (by omega) fun z275 hz275 => ?_) | (refine bs_any rfl fun z275 => ?_)
                                     have rz275 := n_range z275
                                     refine bs_putI (W := [(1, 3, 3)]) (g := 1) rfl rfl Hhp262 (bs_R.uq Hhp262 (g := 1) rfl) (by decide) rfl rfl rfl rfl (Or.inl rfl) (by omega) (by omega) fun hp276 Hhp276 fhp276 rhp276 ehp276 qhp276 nhp276 => ?_
                                     have Fhp276 := sf_fr_tr Fhp262 (sf_fr_wider (W := [(1, 2, 3), (14, 7, 9), (100, 0, 5), (101, 0, 5), (163, 0, 11), (165, 0, 11), (166, 0, 11), (167, 0, 7), (168, 0, 7), (169, 0, 63)]) rfl fhp276)
                                     have h277 : sf_rd hp276 28 7 = some z12.toInt := (ehp276 _ _ (Or.inl (by decide))).trans h263
                                     have h278 : sf_rd hp276 a1 8 = some z64.toInt := (ehp276 _ _ (Or.inl (bs_nq (ra1.fr Fhp262) (bs_R.uq Hhp262 (g := 1) rfl) (by decide)))).trans h264
                                     have h279 : sf_rd hp276 b233 z236.toInt.toNat = some z237.toInt := (ehp276 _ _ (Or.inl (bs_nq r270 (bs_R.uq Hhp262 (g := 1) rfl) (by decide)))).trans h265
                                     have h280 : sf_rd hp276 29 z228.toInt.toNat = some z238.toInt := (ehp276 _ _ (Or.inl (by decide))).trans h266
                                     have h281 : sf_rd hp276 9 k56.toInt.toNat = some z242.toInt := (ehp276 _ _ (Or.inl (by decide))).trans h268
                                     have h282 : sf_rd hp276 29 z253.toInt.toNat = some z254.toInt := (ehp276 _ _ (Or.inl (by decide))).trans h269
                                     have h283 : sf_rd hp276 8 k56.toInt.toNat = some z261.toInt := (ehp276 _ _ (Or.inl (by decide))).trans rhp262
                                     have r284 := r270.fr fhp276
                                     refine bs_iinc (1) rfl rfl rfl rfl (by omega) (by omega) fun z285 hz285 => ?_
                                     exact by
                                      refine (show Ev _ 205 ([some (.ref 7), some (.ref a1), some (.ref 28), some (.int z23), some (.int z28), some (.int z40), some (.int z285), some (.int z240)], [], (0, 0), hp276) _ from ?_)
                                      refine Ev.step (j := 118) (s' := ([some (.ref 7), some (.ref a1), some (.ref 28), some (.int z23), some (.int z28), some (.int z40), some (.int z285), some (.int z240)], [], (0, 0), hp276)) rfl rfl ?_
                                      have FQ : ∀ q : Nat, (q : Int) < z285.toInt → fr_ok hp276 29 fr q := by
                                        intro q hq
                                        by_cases hqk : (q : Int) < k56.toInt
                                        · exact fr_ok_same (i63 q hqk) ((ehp276 _ _ (Or.inl (by decide))).trans ((ehp262 _ _ (Or.inr (by omega))).trans (ehp243 _ _ (Or.inl (by decide))))) ((ehp276 _ _ (Or.inl (by decide))).trans ((ehp262 _ _ (Or.inl (by decide))).trans (ehp243 _ _ (Or.inl (by decide))))) ((ehp276 _ _ (Or.inl (by decide))).trans ((ehp262 _ _ (Or.inl (by decide))).trans (ehp243 _ _ (Or.inl (by decide)))))
                                        · have eq : q = k56.toInt.toNat := by omega
                                          subst eq
                                          exact ⟨z261.toInt, z254.toInt, z238.toInt, h283, ((ehp276 _ _ (Or.inl (by decide))).trans (ehp262 _ _ (Or.inl (by decide)))).trans (bs_at hz254 (by omega)), ((ehp276 _ _ (Or.inl (by decide))).trans ((ehp262 _ _ (Or.inl (by decide))).trans (ehp243 _ _ (Or.inl (by decide))))).trans (bs_at hz238 (by omega)), by omega, by omega, by omega⟩
                                      refine ih60 (z285, (some (.int z240)), hp276, t58) ⟨Hhp276, Fhp276, h277, (by first | omega | assumption), (by first | exact FQ | exact fun q hq => absurd hq (by omega))⟩ ?_
                                      show (6 - z285.toInt).toNat < (6 - k56.toInt).toNat
                                      omega
                    · skip
                      refine Ev.step (j := 56) (s' := ([some (.ref 7), some (.ref a1), some (.ref 28), some (.int z23), some (.int z28), some (.int z40), some (.int k46), none], [.int z28], (0, 0), hp47)) rfl rfl ?_
                      exact by
                       refine Ev.step (j := 57) (s' := ([some (.ref 7), some (.ref a1), some (.ref 28), some (.int z23), some (.int z28), some (.int z40), some (.int k46), none], [.ref 7, .int z28], (0, 0), hp47)) rfl rfl ?_
                       refine bs_getI 1 rfl rfl rfl Hhp47 (bs_R.uq Hhp47 (g := 1) rfl) (by decide) rfl fun z286 hz286 lz286 gz286 => ?_
                       first | (refine bs_sub rfl (by omega) (by omega) fun z287 hz287 => ?_) | (refine bs_any rfl fun z287 => ?_)
                       have rz287 := n_range z287
                       refine bs_lit (k := 2) rfl rfl fun z288 hz288 => ?_
                       refine bs_lt rfl (fun c289 => ?_) (fun c289 => ?_)
                       · skip
                         refine bs_lit (k := 0) rfl rfl fun z290 hz290 => ?_
                         refine Ev.step (j := 118) (s' := ([some (.ref 7), some (.ref a1), some (.ref 28), some (.int z23), some (.int z28), some (.int z40), some (.int z290), none], [], (0, 0), hp47)) rfl rfl ?_
                         exact by
                          refine bs_loop (ι := Int32 × (Option Value) × ab_H × (Nat → Nat)) (fun ⟨k291, o294, hp292, t293⟩ => ([some (.ref 7), some (.ref a1), some (.ref 28), some (.int z23), some (.int z28), some (.int z40), some (.int k291), o294], [], (0, 0), hp292)) (fun ⟨k291, o294, hp292, t293⟩ => (sf_h t293 hp292) ∧ (sf_fr [(1, 2, 3), (14, 7, 9), (100, 0, 5), (101, 0, 5), (163, 0, 11), (165, 0, 11), (166, 0, 11), (167, 0, 7), (168, 0, 7), (169, 0, 63)] t hp t293 hp292) ∧ (sf_rd hp292 28 7 = some z12.toInt) ∧ (0 ≤ k291.toInt ∧ k291.toInt ≤ 6) ∧ (∀ q : Nat, (q : Int) < k291.toInt → fr_ok hp292 29 fr q)) (fun ⟨k291, o294, hp292, t293⟩ => (6 - k291.toInt).toNat) ?_ (z290, none, hp47, t48) ⟨Hhp47, Fhp47, i50, (by first | omega | assumption), (by first | exact FQ | exact fun q hq => absurd hq (by omega))⟩
                          rintro ⟨k291, o294, hp292, t293⟩ ⟨Hhp292, Fhp292, i296, i297, i298⟩ ih295
                          refine (show Ev _ 118 ([some (.ref 7), some (.ref a1), some (.ref 28), some (.int z23), some (.int z28), some (.int z40), some (.int k291), o294], [], (0, 0), hp292) _ from ?_)
                          refine Ev.step (j := 120) (s' := ([some (.ref 7), some (.ref a1), some (.ref 28), some (.int z23), some (.int z28), some (.int z40), some (.int k291), o294], [.int k291], (0, 0), hp292)) rfl rfl ?_
                          refine Ev.step (j := 121) (s' := ([some (.ref 7), some (.ref a1), some (.ref 28), some (.int z23), some (.int z28), some (.int z40), some (.int k291), o294], [.ref a1, .int k291], (0, 0), hp292)) rfl rfl ?_
                          refine bs_getI 7 rfl rfl rfl Hhp292 (ra1.fr Fhp292) (by decide) rfl fun z299 hz299 lz299 gz299 => ?_
                          have e300 : z299.toInt = G := Option.some.inj (hz299.symm.trans ((Fhp292.2.2.1 _ ra1.1 _ (by rw [ra1.2]; rfl)).trans hG))
                          refine bs_ge rfl (fun c301 => ?_) (fun c301 => ?_)
                          · skip
                            have FR : ∀ q : Nat, (q : Int) < G → fr_ok hp292 29 fr q := fun q hq => i298 q (by omega)
                            refine Ev.ret rfl rfl ?_
                            rw [← hQ18]
                            refine (show Ev _ 31 ([some (.ref 7), some (.ref a1), some (.ref 28), some (.int x3), some (.int z1), some (.int k3)], [], (0, 0), hp292) _ from ?_)
                            exact by
                             refine Ev.step (j := 32) (s' := ([some (.ref 7), some (.ref a1), some (.ref 28), some (.int x3), some (.int z1), some (.int k3)], [.ref 7], (0, 0), hp292)) rfl rfl ?_
                             refine Ev.step (j := 33) (s' := ([some (.ref 7), some (.ref a1), some (.ref 28), some (.int x3), some (.int z1), some (.int k3)], [.ref a1, .ref 7], (0, 0), hp292)) rfl rfl ?_
                             refine Ev.step (j := 34) (s' := ([some (.ref 7), some (.ref a1), some (.ref 28), some (.int x3), some (.int z1), some (.int k3)], [.ref 28, .ref a1, .ref 7], (0, 0), hp292)) rfl rfl ?_
                             refine Ev.inl (L := (L_X1_carry Z_X6_ferryShore Z_X10_slotOf)) (nL := 5) rfl (bs_rcv (g := 1) Hhp292 (bs_R.uq Hhp292 (g := 1) rfl) (by decide) rfl) rfl (Nat.le_of_ble_eq_true rfl) ?_
                             generalize hQ302 : (fun (o : ab_O) => Ev _ _ _ _) = Q302
                             refine (show Ev (ab_T (L_X1_carry Z_X6_ferryShore Z_X10_slotOf)) 0 ([some (.ref 7), some (.ref a1), some (.ref 28), none, none], [], (0, 0), hp292) Q302 from ?_)
                             refine Ev.step (j := 1) (s' := ([some (.ref 7), some (.ref a1), some (.ref 28), none, none], [.ref 28], (0, 0), hp292)) rfl rfl ?_
                             refine Ev.inl (L := L_X6_ferryShore) (nL := 1) rfl (bs_rcv (g := 14) Hhp292 (bs_R.uq Hhp292 (g := 14) rfl) (by decide) rfl) rfl (Nat.le_of_ble_eq_true rfl) ?_
                             generalize hQ303 : (fun (o : ab_O) => Ev _ _ _ _) = Q303
                             refine (show Ev (ab_T L_X6_ferryShore) 0 ([some (.ref 28)], [], (0, 0), hp292) Q303 from ?_)
                             exact by
                              refine Ev.step (j := 1) (s' := ([some (.ref 28)], [.ref 28], (0, 0), hp292)) rfl rfl ?_
                              refine bs_getI 14 rfl rfl rfl Hhp292 (bs_R.uq Hhp292 (g := 14) rfl) (by decide) rfl fun z304 hz304 lz304 gz304 => ?_
                              have e305 : z304.toInt = z12.toInt := Option.some.inj (hz304.symm.trans i296)
                              refine bs_lit (k := 2) rfl rfl fun z306 hz306 => ?_
                              refine bs_rem 2 rfl hz306 (by decide) (by omega) fun z307 hz307 => ?_
                              refine Ev.ret rfl rfl ?_
                              rw [← hQ303]
                              refine (show Ev _ 4 ([some (.ref 7), some (.ref a1), some (.ref 28), none, none], [.int z307], (0, 0), hp292) _ from ?_)
                              refine Ev.step (j := 5) (s' := ([some (.ref 7), some (.ref a1), some (.ref 28), some (.int z307), none], [], (0, 0), hp292)) rfl rfl ?_
                              exact by
                               refine bs_lit (k := 0) rfl rfl fun z308 hz308 => ?_
                               refine Ev.step (j := 8) (s' := ([some (.ref 7), some (.ref a1), some (.ref 28), some (.int z307), some (.int z308)], [], (0, 0), hp292)) rfl rfl ?_
                               refine bs_loop (ι := Int32 × ab_H × (Nat → Nat)) (fun ⟨k309, hp310, t311⟩ => ([some (.ref 7), some (.ref a1), some (.ref 28), some (.int z307), some (.int k309)], [], (0, 0), hp310)) (fun ⟨k309, hp310, t311⟩ => (sf_h t311 hp310) ∧ (sf_fr [(1, 2, 3), (14, 7, 9), (100, 0, 5), (101, 0, 5), (163, 0, 11), (165, 0, 11), (166, 0, 11), (167, 0, 7), (168, 0, 7), (169, 0, 63)] t hp t311 hp310) ∧ (sf_rd hp310 28 7 = some z12.toInt) ∧ (0 ≤ k309.toInt ∧ k309.toInt ≤ 8) ∧ (∀ q : Nat, (q : Int) < G → fr_ok hp310 29 fr q)) (fun ⟨k309, hp310, t311⟩ => (8 - k309.toInt).toNat) ?_ (z308, hp292, t293) ⟨Hhp292, Fhp292, i296, (by first | omega | assumption), (by first | exact FR2 | exact FR)⟩
                               rintro ⟨k309, hp310, t311⟩ ⟨Hhp310, Fhp310, i313, i314, i315⟩ ih312
                               refine (show Ev _ 8 ([some (.ref 7), some (.ref a1), some (.ref 28), some (.int z307), some (.int k309)], [], (0, 0), hp310) _ from ?_)
                               refine Ev.step (j := 10) (s' := ([some (.ref 7), some (.ref a1), some (.ref 28), some (.int z307), some (.int k309)], [.int k309], (0, 0), hp310)) rfl rfl ?_
                               refine Ev.step (j := 11) (s' := ([some (.ref 7), some (.ref a1), some (.ref 28), some (.int z307), some (.int k309)], [.ref a1, .int k309], (0, 0), hp310)) rfl rfl ?_
                               refine bs_getI 7 rfl rfl rfl Hhp310 (ra1.fr Fhp310) (by decide) rfl fun z316 hz316 lz316 gz316 => ?_
                               have e317 : z316.toInt = M := Option.some.inj (hz316.symm.trans ((Fhp310.2.2.1 _ ra1.1 _ (by rw [ra1.2]; rfl)).trans hM))
                               refine bs_ge rfl (fun c318 => ?_) (fun c318 => ?_)
                               · skip
                                 refine bs_lit (k := 0) rfl rfl fun z319 hz319 => ?_
                                 exact by
                                  refine Ev.step (j := 59) (s' := ([some (.ref 7), some (.ref a1), some (.ref 28), some (.int z307), some (.int z319)], [], (0, 0), hp310)) rfl rfl ?_
                                  refine bs_loop (ι := Int32 × ab_H × (Nat → Nat)) (fun ⟨k320, hp321, t322⟩ => ([some (.ref 7), some (.ref a1), some (.ref 28), some (.int z307), some (.int k320)], [], (0, 0), hp321)) (fun ⟨k320, hp321, t322⟩ => (sf_h t322 hp321) ∧ (sf_fr [(1, 2, 3), (14, 7, 9), (100, 0, 5), (101, 0, 5), (163, 0, 11), (165, 0, 11), (166, 0, 11), (167, 0, 7), (168, 0, 7), (169, 0, 63)] t hp t322 hp321) ∧ (sf_rd hp321 28 7 = some z12.toInt) ∧ (0 ≤ k320.toInt ∧ k320.toInt ≤ 6) ∧ (∀ q : Nat, k320.toInt ≤ (q : Int) → (q : Int) < G → fr_ok hp321 29 fr q)) (fun ⟨k320, hp321, t322⟩ => (6 - k320.toInt).toNat) ?_ (z319, hp310, t311) ⟨Hhp310, Fhp310, i313, (by first | omega | assumption), (by first | exact FR3 | exact fun q _ hq => i315 q hq)⟩
                                  rintro ⟨k320, hp321, t322⟩ ⟨Hhp321, Fhp321, i324, i325, i326⟩ ih323
                                  refine (show Ev _ 59 ([some (.ref 7), some (.ref a1), some (.ref 28), some (.int z307), some (.int k320)], [], (0, 0), hp321) _ from ?_)
                                  refine Ev.step (j := 61) (s' := ([some (.ref 7), some (.ref a1), some (.ref 28), some (.int z307), some (.int k320)], [.int k320], (0, 0), hp321)) rfl rfl ?_
                                  refine Ev.step (j := 62) (s' := ([some (.ref 7), some (.ref a1), some (.ref 28), some (.int z307), some (.int k320)], [.ref a1, .int k320], (0, 0), hp321)) rfl rfl ?_
                                  refine bs_getI 7 rfl rfl rfl Hhp321 (ra1.fr Fhp321) (by decide) rfl fun z327 hz327 lz327 gz327 => ?_
                                  have e328 : z327.toInt = G := Option.some.inj (hz327.symm.trans ((Fhp321.2.2.1 _ ra1.1 _ (by rw [ra1.2]; rfl)).trans hG))
                                  refine bs_ge rfl (fun c329 => ?_) (fun c329 => ?_)
                                  · skip
                                    refine Ev.step (j := 142) (s' := ([some (.ref 7), some (.ref a1), some (.ref 28), some (.int z307), some (.int k320)], [.ref 28], (0, 0), hp321)) rfl rfl ?_
                                    exact by
                                     refine Ev.step (j := 143) (s' := ([some (.ref 7), some (.ref a1), some (.ref 28), some (.int z307), some (.int k320)], [.ref 28, .ref 28], (0, 0), hp321)) rfl rfl ?_
                                     refine bs_getI 14 rfl rfl rfl Hhp321 (bs_R.uq Hhp321 (g := 14) rfl) (by decide) rfl fun z330 hz330 lz330 gz330 => ?_
                                     refine Ev.step (j := 147) (s' := ([some (.ref 7), some (.ref a1), some (.ref 28), some (.int z307), some (.int k320)], [.ref 7, .int z330, .ref 28], (0, 0), hp321)) rfl rfl ?_
                                     refine bs_getI 1 rfl rfl rfl Hhp321 (bs_R.uq Hhp321 (g := 1) rfl) (by decide) rfl fun z331 hz331 lz331 gz331 => ?_
                                     first | (refine bs_add rfl (by omega) (by omega) fun z332 hz332 => ?_) | (refine bs_any rfl fun z332 => ?_)
                                     have rz332 := n_range z332
                                     refine bs_putI (W := [(14, 9, 9)]) (g := 14) rfl rfl Hhp321 (bs_R.uq Hhp321 (g := 14) rfl) (by decide) rfl rfl rfl rfl (Or.inl rfl) (by omega) (by omega) fun hp333 Hhp333 fhp333 rhp333 ehp333 qhp333 nhp333 => ?_
                                     have Fhp333 := sf_fr_tr Fhp321 (sf_fr_wider (W := [(1, 2, 3), (14, 7, 9), (100, 0, 5), (101, 0, 5), (163, 0, 11), (165, 0, 11), (166, 0, 11), (167, 0, 7), (168, 0, 7), (169, 0, 63)]) rfl fhp333)
                                     have h334 : sf_rd hp333 28 7 = some z12.toInt := (ehp333 _ _ (Or.inr (by omega))).trans i324
                                     have h335 : sf_rd hp333 a1 8 = some z327.toInt := (ehp333 _ _ (Or.inl (bs_nq (ra1.fr Fhp321) (bs_R.uq Hhp321 (g := 14) rfl) (by decide)))).trans hz327
                                     have h336 : sf_rd hp333 7 3 = some z331.toInt := (ehp333 _ _ (Or.inl (by decide))).trans hz331
                                     refine Ev.step (j := 155) (s' := ([some (.ref 7), some (.ref a1), some (.ref 28), some (.int z307), some (.int k320)], [.ref 7], (0, 0), hp333)) rfl rfl ?_
                                     exact by
                                      refine bs_getI 1 rfl rfl rfl Hhp333 (bs_R.uq Hhp333 (g := 1) rfl) (by decide) rfl fun z337 hz337 lz337 gz337 => ?_
                                      have e338 : z337.toInt = z331.toInt := Option.some.inj (hz337.symm.trans h336)
                                      refine bs_ifne rfl (fun c339 => ?_) (fun c339 => ?_)
                                      · skip
                                        refine Ev.ret rfl rfl ?_
                                        rw [← hQ302]
                                        refine (show Ev _ 37 ([some (.ref 7), some (.ref a1), some (.ref 28), some (.int x3), some (.int z1), some (.int k3)], [], (0, 0), hp333) _ from ?_)
                                        refine Ev.step (j := 38) (s' := ([some (.ref 7), some (.ref a1), some (.ref 28), some (.int x3), some (.int z1), some (.int k3)], [.ref 28], (0, 0), hp333)) rfl rfl ?_
                                        refine Ev.step (j := 39) (s' := ([some (.ref 7), some (.ref a1), some (.ref 28), some (.int x3), some (.int z1), some (.int k3)], [.ref a1, .ref 28], (0, 0), hp333)) rfl rfl ?_
                                        refine bs_call (K := kq_X6_makeAndEat_f03dbc) [.ref 28, .ref a1] [] rfl ct_X6_makeAndEat_f03dbc Hhp333 rfl rfl rfl (bs_rcv (g := 14) Hhp333 (bs_R.uq Hhp333 (g := 14) rfl) (by decide) rfl) rfl ?_ (sf_S_nil) fun r340 hp341 thp341 Hhp341 fhp341 ahp341 php341 => ?_
                                        · intro q k h
                                          match q, h with
                                          | 0, h => cases h; exact bs_jR (bs_R.uq Hhp333 (g := 14) rfl)
                                          | 1, h => cases h; exact bs_jR (ra1.fr Fhp333)
                                          | q + 2, h => cases h
                                        obtain rfl := ahp341.1 rfl
                                        have Fhp341 := sf_fr_tr Fhp333 (sf_fr_wider (W := [(1, 2, 3), (14, 7, 9), (100, 0, 5), (101, 0, 5), (163, 0, 11), (165, 0, 11), (166, 0, 11), (167, 0, 7), (168, 0, 7), (169, 0, 63)]) rfl fhp341)
                                        have h342 : sf_rd hp341 28 7 = some z12.toInt := (fhp341.2.2.1 _ (bs_R.uq Hhp333 (g := 14) (p := 28) rfl).1 _ (by rw [(bs_R.uq Hhp333 (g := 14) (p := 28) rfl).2]; rfl)).trans h334
                                        have h343 : sf_rd hp341 a1 8 = some z327.toInt := (fhp341.2.2.1 _ (ra1.fr Fhp333).1 _ (by rw [(ra1.fr Fhp333).2]; rfl)).trans h335
                                        have h344 : sf_rd hp341 7 3 = some z331.toInt := (fhp341.2.2.1 _ (bs_R.uq Hhp333 (g := 1) (p := 7) rfl).1 _ (by rw [(bs_R.uq Hhp333 (g := 1) (p := 7) rfl).2]; rfl)).trans h336
                                        have h345 : sf_rd hp341 28 9 = some z332.toInt := (fhp341.2.2.1 _ (bs_R.uq Hhp333 (g := 14) (p := 28) rfl).1 _ (by rw [(bs_R.uq Hhp333 (g := 14) (p := 28) rfl).2]; rfl)).trans rhp333
                                        refine (show Ev _ 42 ([some (.ref 7), some (.ref a1), some (.ref 28), some (.int x3), some (.int z1), some (.int k3)], [], (0, 0), hp341) _ from ?_)
                                        exact by
                                         refine Ev.step (j := 43) (s' := ([some (.ref 7), some (.ref a1), some (.ref 28), some (.int x3), some (.int z1), some (.int k3)], [.ref 28], (0, 0), hp341)) rfl rfl ?_
                                         refine Ev.step (j := 44) (s' := ([some (.ref 7), some (.ref a1), some (.ref 28), some (.int x3), some (.int z1), some (.int k3)], [.ref a1, .ref 28], (0, 0), hp341)) rfl rfl ?_
                                         refine bs_call (K := kq_X6_countApart_f03dbc) [.ref 28, .ref a1] [] rfl ct_X6_countApart_f03dbc Hhp341 rfl rfl rfl (bs_rcv (g := 14) Hhp341 (bs_R.uq Hhp341 (g := 14) rfl) (by decide) rfl) rfl ?_ (sf_S_nil) fun r346 hp347 thp347 Hhp347 fhp347 ahp347 php347 => ?_
                                         · intro q k h
                                           match q, h with
                                           | 0, h => cases h; exact bs_jR (bs_R.uq Hhp341 (g := 14) rfl)
                                           | 1, h => cases h; exact bs_jR (ra1.fr Fhp341)
                                           | q + 2, h => cases h
                                         obtain rfl := ahp347.1 rfl
                                         have Fhp347 := sf_fr_tr Fhp341 (sf_fr_wider (W := [(1, 2, 3), (14, 7, 9), (100, 0, 5), (101, 0, 5), (163, 0, 11), (165, 0, 11), (166, 0, 11), (167, 0, 7), (168, 0, 7), (169, 0, 63)]) rfl fhp347)
                                         have h348 : sf_rd hp347 28 7 = some z12.toInt := (fhp347.2.2.1 _ (bs_R.uq Hhp341 (g := 14) (p := 28) rfl).1 _ (by rw [(bs_R.uq Hhp341 (g := 14) (p := 28) rfl).2]; rfl)).trans h342
                                         have h349 : sf_rd hp347 a1 8 = some z327.toInt := (fhp347.2.2.1 _ (ra1.fr Fhp341).1 _ (by rw [(ra1.fr Fhp341).2]; rfl)).trans h343
                                         have h350 : sf_rd hp347 7 3 = some z331.toInt := (fhp347.2.2.1 _ (bs_R.uq Hhp341 (g := 1) (p := 7) rfl).1 _ (by rw [(bs_R.uq Hhp341 (g := 1) (p := 7) rfl).2]; rfl)).trans h344
                                         have h351 : sf_rd hp347 28 9 = some z332.toInt := (fhp347.2.2.1 _ (bs_R.uq Hhp341 (g := 14) (p := 28) rfl).1 _ (by rw [(bs_R.uq Hhp341 (g := 14) (p := 28) rfl).2]; rfl)).trans h345
                                         refine (show Ev _ 47 ([some (.ref 7), some (.ref a1), some (.ref 28), some (.int x3), some (.int z1), some (.int k3)], [], (0, 0), hp347) _ from ?_)
                                         exact by
                                          refine Ev.step (j := 48) (s' := ([some (.ref 7), some (.ref a1), some (.ref 28), some (.int x3), some (.int z1), some (.int k3)], [.ref 28], (0, 0), hp347)) rfl rfl ?_
                                          refine Ev.step (j := 49) (s' := ([some (.ref 7), some (.ref a1), some (.ref 28), some (.int x3), some (.int z1), some (.int k3)], [.ref 28, .ref 28], (0, 0), hp347)) rfl rfl ?_
                                          refine bs_getI 14 rfl rfl rfl Hhp347 (bs_R.uq Hhp347 (g := 14) rfl) (by decide) rfl fun z352 hz352 lz352 gz352 => ?_
                                          have e353 : z352.toInt = z12.toInt := Option.some.inj (hz352.symm.trans h348)
                                          refine bs_lit (k := 1) rfl rfl fun z354 hz354 => ?_
                                          first | (refine bs_add rfl (by omega) (by omega) fun z355 hz355 => ?_) | (refine bs_any rfl fun z355 => ?_)
                                          have rz355 := n_range z355
                                          refine bs_putI (W := [(14, 7, 7)]) (g := 14) rfl rfl Hhp347 (bs_R.uq Hhp347 (g := 14) rfl) (by decide) rfl rfl rfl rfl (Or.inl rfl) (by omega) (by omega) fun hp356 Hhp356 fhp356 rhp356 ehp356 qhp356 nhp356 => ?_
                                          have Fhp356 := sf_fr_tr Fhp347 (sf_fr_wider (W := [(1, 2, 3), (14, 7, 9), (100, 0, 5), (101, 0, 5), (163, 0, 11), (165, 0, 11), (166, 0, 11), (167, 0, 7), (168, 0, 7), (169, 0, 63)]) rfl fhp356)
                                          have h357 : sf_rd hp356 a1 8 = some z327.toInt := (ehp356 _ _ (Or.inl (bs_nq (ra1.fr Fhp347) (bs_R.uq Hhp347 (g := 14) rfl) (by decide)))).trans h349
                                          have h358 : sf_rd hp356 7 3 = some z331.toInt := (ehp356 _ _ (Or.inl (by decide))).trans h350
                                          have h359 : sf_rd hp356 28 9 = some z332.toInt := (ehp356 _ _ (Or.inr (by omega))).trans h351
                                          refine bs_iinc (1) rfl rfl rfl rfl (by omega) (by omega) fun z360 hz360 => ?_
                                          exact by
                                           refine (show Ev _ 60 ([some (.ref 7), some (.ref a1), some (.ref 28), some (.int x3), some (.int z1), some (.int z360)], [], (0, 0), hp356) _ from ?_)
                                           refine Ev.step (j := 9) (s' := ([some (.ref 7), some (.ref a1), some (.ref 28), some (.int x3), some (.int z1), some (.int z360)], [], (0, 0), hp356)) rfl rfl ?_
                                           refine ih6 (z360, hp356, thp347) ⟨Hhp356, Fhp356, (by first | omega | assumption), (by first | omega | assumption)⟩ ?_
                                           show (x3.toInt - z360.toInt).toNat < (x3.toInt - k3.toInt).toNat
                                           omega
                                      · skip
                                        have c361 : z337.toInt = 0 := by omega
                                        refine Ev.step (j := 162) (s' := ([some (.ref 7), some (.ref a1), some (.ref 28), some (.int z307), some (.int k320)], [.ref 28], (0, 0), hp333)) rfl rfl ?_
                                        exact by
                                         refine Ev.step (j := 163) (s' := ([some (.ref 7), some (.ref a1), some (.ref 28), some (.int z307), some (.int k320)], [.ref 28, .ref 28], (0, 0), hp333)) rfl rfl ?_
                                         refine bs_getI 14 rfl rfl rfl Hhp333 (bs_R.uq Hhp333 (g := 14) rfl) (by decide) rfl fun z362 hz362 lz362 gz362 => ?_
                                         refine bs_lit (k := 1) rfl rfl fun z363 hz363 => ?_
                                         first | (refine bs_add rfl (by omega) (by omega) fun z364 hz364 => ?_) | (refine bs_any rfl fun z364 => ?_)
                                         have rz364 := n_range z364
                                         refine bs_putI (W := [(14, 8, 8)]) (g := 14) rfl rfl Hhp333 (bs_R.uq Hhp333 (g := 14) rfl) (by decide) rfl rfl rfl rfl (Or.inl rfl) (by omega) (by omega) fun hp365 Hhp365 fhp365 rhp365 ehp365 qhp365 nhp365 => ?_
                                         have Fhp365 := sf_fr_tr Fhp333 (sf_fr_wider (W := [(1, 2, 3), (14, 7, 9), (100, 0, 5), (101, 0, 5), (163, 0, 11), (165, 0, 11), (166, 0, 11), (167, 0, 7), (168, 0, 7), (169, 0, 63)]) rfl fhp365)
                                         have h366 : sf_rd hp365 28 7 = some z12.toInt := (ehp365 _ _ (Or.inr (by omega))).trans h334
                                         have h367 : sf_rd hp365 a1 8 = some z327.toInt := (ehp365 _ _ (Or.inl (bs_nq (ra1.fr Fhp333) (bs_R.uq Hhp333 (g := 14) rfl) (by decide)))).trans h335
                                         have h368 : sf_rd hp365 7 3 = some z331.toInt := (ehp365 _ _ (Or.inl (by decide))).trans h336
                                         have h369 : sf_rd hp365 28 9 = some z332.toInt := (ehp365 _ _ (Or.inr (by omega))).trans rhp333
                                         refine Ev.ret rfl rfl ?_
                                         rw [← hQ302]
                                         refine (show Ev _ 37 ([some (.ref 7), some (.ref a1), some (.ref 28), some (.int x3), some (.int z1), some (.int k3)], [], (0, 0), hp365) _ from ?_)
                                         exact by
                                          refine Ev.step (j := 38) (s' := ([some (.ref 7), some (.ref a1), some (.ref 28), some (.int x3), some (.int z1), some (.int k3)], [.ref 28], (0, 0), hp365)) rfl rfl ?_
                                          refine Ev.step (j := 39) (s' := ([some (.ref 7), some (.ref a1), some (.ref 28), some (.int x3), some (.int z1), some (.int k3)], [.ref a1, .ref 28], (0, 0), hp365)) rfl rfl ?_
                                          refine bs_call (K := kq_X6_makeAndEat_f03dbc) [.ref 28, .ref a1] [] rfl ct_X6_makeAndEat_f03dbc Hhp365 rfl rfl rfl (bs_rcv (g := 14) Hhp365 (bs_R.uq Hhp365 (g := 14) rfl) (by decide) rfl) rfl ?_ (sf_S_nil) fun r370 hp371 thp371 Hhp371 fhp371 ahp371 php371 => ?_
                                          · intro q k h
                                            match q, h with
                                            | 0, h => cases h; exact bs_jR (bs_R.uq Hhp365 (g := 14) rfl)
                                            | 1, h => cases h; exact bs_jR (ra1.fr Fhp365)
                                            | q + 2, h => cases h
                                          obtain rfl := ahp371.1 rfl
                                          have Fhp371 := sf_fr_tr Fhp365 (sf_fr_wider (W := [(1, 2, 3), (14, 7, 9), (100, 0, 5), (101, 0, 5), (163, 0, 11), (165, 0, 11), (166, 0, 11), (167, 0, 7), (168, 0, 7), (169, 0, 63)]) rfl fhp371)
                                          have h372 : sf_rd hp371 28 7 = some z12.toInt := (fhp371.2.2.1 _ (bs_R.uq Hhp365 (g := 14) (p := 28) rfl).1 _ (by rw [(bs_R.uq Hhp365 (g := 14) (p := 28) rfl).2]; rfl)).trans h366
                                          have h373 : sf_rd hp371 a1 8 = some z327.toInt := (fhp371.2.2.1 _ (ra1.fr Fhp365).1 _ (by rw [(ra1.fr Fhp365).2]; rfl)).trans h367
                                          have h374 : sf_rd hp371 7 3 = some z331.toInt := (fhp371.2.2.1 _ (bs_R.uq Hhp365 (g := 1) (p := 7) rfl).1 _ (by rw [(bs_R.uq Hhp365 (g := 1) (p := 7) rfl).2]; rfl)).trans h368
                                          have h375 : sf_rd hp371 28 9 = some z332.toInt := (fhp371.2.2.1 _ (bs_R.uq Hhp365 (g := 14) (p := 28) rfl).1 _ (by rw [(bs_R.uq Hhp365 (g := 14) (p := 28) rfl).2]; rfl)).trans h369
                                          have h376 : sf_rd hp371 28 8 = some z364.toInt := (fhp371.2.2.1 _ (bs_R.uq Hhp365 (g := 14) (p := 28) rfl).1 _ (by rw [(bs_R.uq Hhp365 (g := 14) (p := 28) rfl).2]; rfl)).trans rhp365
                                          refine (show Ev _ 42 ([some (.ref 7), some (.ref a1), some (.ref 28), some (.int x3), some (.int z1), some (.int k3)], [], (0, 0), hp371) _ from ?_)
                                          exact by
                                           refine Ev.step (j := 43) (s' := ([some (.ref 7), some (.ref a1), some (.ref 28), some (.int x3), some (.int z1), some (.int k3)], [.ref 28], (0, 0), hp371)) rfl rfl ?_
                                           refine Ev.step (j := 44) (s' := ([some (.ref 7), some (.ref a1), some (.ref 28), some (.int x3), some (.int z1), some (.int k3)], [.ref a1, .ref 28], (0, 0), hp371)) rfl rfl ?_
                                           refine bs_call (K := kq_X6_countApart_f03dbc) [.ref 28, .ref a1] [] rfl ct_X6_countApart_f03dbc Hhp371 rfl rfl rfl (bs_rcv (g := 14) Hhp371 (bs_R.uq Hhp371 (g := 14) rfl) (by decide) rfl) rfl ?_ (sf_S_nil) fun r377 hp378 thp378 Hhp378 fhp378 ahp378 php378 => ?_
                                           · intro q k h
                                             match q, h with
                                             | 0, h => cases h; exact bs_jR (bs_R.uq Hhp371 (g := 14) rfl)
                                             | 1, h => cases h; exact bs_jR (ra1.fr Fhp371)
                                             | q + 2, h => cases h
                                           obtain rfl := ahp378.1 rfl
                                           have Fhp378 := sf_fr_tr Fhp371 (sf_fr_wider (W := [(1, 2, 3), (14, 7, 9), (100, 0, 5), (101, 0, 5), (163, 0, 11), (165, 0, 11), (166, 0, 11), (167, 0, 7), (168, 0, 7), (169, 0, 63)]) rfl fhp378)
                                           have h379 : sf_rd hp378 28 7 = some z12.toInt := (fhp378.2.2.1 _ (bs_R.uq Hhp371 (g := 14) (p := 28) rfl).1 _ (by rw [(bs_R.uq Hhp371 (g := 14) (p := 28) rfl).2]; rfl)).trans h372
                                           have h380 : sf_rd hp378 a1 8 = some z327.toInt := (fhp378.2.2.1 _ (ra1.fr Fhp371).1 _ (by rw [(ra1.fr Fhp371).2]; rfl)).trans h373
                                           have h381 : sf_rd hp378 7 3 = some z331.toInt := (fhp378.2.2.1 _ (bs_R.uq Hhp371 (g := 1) (p := 7) rfl).1 _ (by rw [(bs_R.uq Hhp371 (g := 1) (p := 7) rfl).2]; rfl)).trans h374
                                           have h382 : sf_rd hp378 28 9 = some z332.toInt := (fhp378.2.2.1 _ (bs_R.uq Hhp371 (g := 14) (p := 28) rfl).1 _ (by rw [(bs_R.uq Hhp371 (g := 14) (p := 28) rfl).2]; rfl)).trans h375
                                           have h383 : sf_rd hp378 28 8 = some z364.toInt := (fhp378.2.2.1 _ (bs_R.uq Hhp371 (g := 14) (p := 28) rfl).1 _ (by rw [(bs_R.uq Hhp371 (g := 14) (p := 28) rfl).2]; rfl)).trans h376
                                           refine (show Ev _ 47 ([some (.ref 7), some (.ref a1), some (.ref 28), some (.int x3), some (.int z1), some (.int k3)], [], (0, 0), hp378) _ from ?_)
                                           exact by
                                            refine Ev.step (j := 48) (s' := ([some (.ref 7), some (.ref a1), some (.ref 28), some (.int x3), some (.int z1), some (.int k3)], [.ref 28], (0, 0), hp378)) rfl rfl ?_
                                            refine Ev.step (j := 49) (s' := ([some (.ref 7), some (.ref a1), some (.ref 28), some (.int x3), some (.int z1), some (.int k3)], [.ref 28, .ref 28], (0, 0), hp378)) rfl rfl ?_
                                            refine bs_getI 14 rfl rfl rfl Hhp378 (bs_R.uq Hhp378 (g := 14) rfl) (by decide) rfl fun z384 hz384 lz384 gz384 => ?_
                                            have e385 : z384.toInt = z12.toInt := Option.some.inj (hz384.symm.trans h379)
                                            refine bs_lit (k := 1) rfl rfl fun z386 hz386 => ?_
                                            first | (refine bs_add rfl (by omega) (by omega) fun z387 hz387 => ?_) | (refine bs_any rfl fun z387 => ?_)
                                            have rz387 := n_range z387
                                            refine bs_putI (W := [(14, 7, 7)]) (g := 14) rfl rfl Hhp378 (bs_R.uq Hhp378 (g := 14) rfl) (by decide) rfl rfl rfl rfl (Or.inl rfl) (by omega) (by omega) fun hp388 Hhp388 fhp388 rhp388 ehp388 qhp388 nhp388 => ?_
                                            have Fhp388 := sf_fr_tr Fhp378 (sf_fr_wider (W := [(1, 2, 3), (14, 7, 9), (100, 0, 5), (101, 0, 5), (163, 0, 11), (165, 0, 11), (166, 0, 11), (167, 0, 7), (168, 0, 7), (169, 0, 63)]) rfl fhp388)
                                            have h389 : sf_rd hp388 a1 8 = some z327.toInt := (ehp388 _ _ (Or.inl (bs_nq (ra1.fr Fhp378) (bs_R.uq Hhp378 (g := 14) rfl) (by decide)))).trans h380
                                            have h390 : sf_rd hp388 7 3 = some z331.toInt := (ehp388 _ _ (Or.inl (by decide))).trans h381
                                            have h391 : sf_rd hp388 28 9 = some z332.toInt := (ehp388 _ _ (Or.inr (by omega))).trans h382
                                            have h392 : sf_rd hp388 28 8 = some z364.toInt := (ehp388 _ _ (Or.inr (by omega))).trans h383
                                            refine bs_iinc (1) rfl rfl rfl rfl (by omega) (by omega) fun z393 hz393 => ?_
                                            exact by
                                             refine (show Ev _ 60 ([some (.ref 7), some (.ref a1), some (.ref 28), some (.int x3), some (.int z1), some (.int z393)], [], (0, 0), hp388) _ from ?_)
                                             refine Ev.step (j := 9) (s' := ([some (.ref 7), some (.ref a1), some (.ref 28), some (.int x3), some (.int z1), some (.int z393)], [], (0, 0), hp388)) rfl rfl ?_
                                             refine ih6 (z393, hp388, thp378) ⟨Hhp388, Fhp388, (by first | omega | assumption), (by first | omega | assumption)⟩ ?_
                                             show (x3.toInt - z393.toInt).toNat < (x3.toInt - k3.toInt).toNat
                                             omega
                                  · skip
                                    obtain ⟨fv, xv, yv, hfv, hxv, hyv, f0, f1, f2⟩ := i326 k320.toInt.toNat (by omega) (by omega)
                                    refine Ev.step (j := 69) (s' := ([some (.ref 7), some (.ref a1), some (.ref 28), some (.int z307), some (.int k320)], [.ref 28], (0, 0), hp321)) rfl rfl ?_
                                    exact by
                                     refine bs_getU (g := 14) (g1 := 163) rfl rfl Hhp321 (bs_R.uq Hhp321 (g := 14) rfl) (by decide) rfl rfl ?_
                                     refine Ev.step (j := 74) (s' := ([some (.ref 7), some (.ref a1), some (.ref 28), some (.int z307), some (.int k320)], [.int k320, .ref 29], (0, 0), hp321)) rfl rfl ?_
                                     refine Ev.step (j := 75) (s' := ([some (.ref 7), some (.ref a1), some (.ref 28), some (.int z307), some (.int k320)], [.int z307, .int k320, .ref 29], (0, 0), hp321)) rfl rfl ?_
                                     refine Ev.inlS (L := L_X10_slotOf) (nL := 2) rfl rfl (Nat.le_of_ble_eq_true rfl) ?_
                                     generalize hQ394 : (fun (o : ab_O) => Ev _ _ _ _) = Q394
                                     refine (show Ev (ab_T L_X10_slotOf) 0 ([some (.int k320), some (.int z307)], [], (0, 0), hp321) Q394 from ?_)
                                     refine bs_lit (k := 2) rfl rfl fun z395 hz395 => ?_
                                     refine Ev.step (j := 2) (s' := ([some (.int k320), some (.int z307)], [.int k320, .int z395], (0, 0), hp321)) rfl rfl ?_
                                     refine bs_mul (2) rfl (Or.inl hz395) (by rw [hz395]; omega) (by rw [hz395]; omega) fun z396 hz396 => ?_
                                     rw [hz395] at hz396
                                     refine Ev.step (j := 4) (s' := ([some (.int k320), some (.int z307)], [.int z307, .int z396], (0, 0), hp321)) rfl rfl ?_
                                     first | (refine bs_add rfl (by omega) (by omega) fun z397 hz397 => ?_) | (refine bs_any rfl fun z397 => ?_)
                                     have rz397 := n_range z397
                                     refine Ev.ret rfl rfl ?_
                                     rw [← hQ394]
                                     refine (show Ev _ 78 ([some (.ref 7), some (.ref a1), some (.ref 28), some (.int z307), some (.int k320)], [.int z397, .ref 29], (0, 0), hp321) _ from ?_)
                                     exact by
                                      refine Ev.step (j := 79) (s' := ([some (.ref 7), some (.ref a1), some (.ref 28), some (.int z307), some (.int k320)], [.int z397, .ref 29, .int z397, .ref 29], (0, 0), hp321)) rfl rfl ?_
                                      refine bs_ld (g := 163) 0 11 (0, 999) rfl Hhp321 (bs_R.uq Hhp321 (g := 163) rfl) (by decide) rfl (by decide) (by decide) rfl (by decide) (by omega) (by omega) fun z398 hz398 lz398 gz398 => ?_
                                      dsimp only at lz398 gz398
                                      have exv : z398.toInt = xv := Option.some.inj ((bs_at hz398 (show _ = 2 * k320.toInt.toNat + fr by omega)).symm.trans hxv)
                                      refine Ev.step (j := 81) (s' := ([some (.ref 7), some (.ref a1), some (.ref 28), some (.int z307), some (.int k320)], [.ref 7, .int z398, .int z397, .ref 29], (0, 0), hp321)) rfl rfl ?_
                                      refine bs_getU (g := 1) (g1 := 100) rfl rfl Hhp321 (bs_R.uq Hhp321 (g := 1) rfl) (by decide) rfl rfl ?_
                                      refine Ev.step (j := 86) (s' := ([some (.ref 7), some (.ref a1), some (.ref 28), some (.int z307), some (.int k320)], [.int k320, .ref 8, .int z398, .int z397, .ref 29], (0, 0), hp321)) rfl rfl ?_
                                      refine bs_ld (g := 100) 0 5 (-2147483648, 2147483647) rfl Hhp321 (bs_R.uq Hhp321 (g := 100) rfl) (by decide) rfl (by decide) (by decide) rfl (by decide) (by omega) (by omega) fun z399 hz399 lz399 gz399 => ?_
                                      dsimp only at lz399 gz399
                                      have e400 : z399.toInt = fv := Option.some.inj (hz399.symm.trans hfv)
                                      first | (refine bs_sub rfl (by omega) (by omega) fun z401 hz401 => ?_) | (refine bs_any rfl fun z401 => ?_)
                                      have rz401 := n_range z401
                                      refine bs_st (W := [(163, 0, 11)]) (g := 163) 0 11 (0, 999) rfl Hhp321 (bs_R.uq Hhp321 (g := 163) rfl) (by decide) rfl rfl (by decide) rfl rfl (by omega) (by omega) (by dsimp only; omega) (by dsimp only; omega) fun hp402 Hhp402 fhp402 rhp402 ehp402 qhp402 nhp402 => ?_
                                      have Fhp402 := sf_fr_tr Fhp321 (sf_fr_wider (W := [(1, 2, 3), (14, 7, 9), (100, 0, 5), (101, 0, 5), (163, 0, 11), (165, 0, 11), (166, 0, 11), (167, 0, 7), (168, 0, 7), (169, 0, 63)]) rfl fhp402)
                                      have h403 : sf_rd hp402 28 7 = some z12.toInt := (ehp402 _ _ (Or.inl (by decide))).trans i324
                                      have h404 : sf_rd hp402 a1 8 = some z327.toInt := (ehp402 _ _ (Or.inl (bs_nq (ra1.fr Fhp321) (bs_R.uq Hhp321 (g := 163) rfl) (by decide)))).trans hz327
                                      have h405 : sf_rd hp402 8 k320.toInt.toNat = some fv := (ehp402 _ _ (Or.inl (by decide))).trans hfv
                                      refine Ev.step (j := 90) (s' := ([some (.ref 7), some (.ref a1), some (.ref 28), some (.int z307), some (.int k320)], [.ref 28], (0, 0), hp402)) rfl rfl ?_
                                      exact by
                                       refine bs_getU (g := 14) (g1 := 163) rfl rfl Hhp402 (bs_R.uq Hhp402 (g := 14) rfl) (by decide) rfl rfl ?_
                                       refine Ev.step (j := 95) (s' := ([some (.ref 7), some (.ref a1), some (.ref 28), some (.int z307), some (.int k320)], [.int k320, .ref 29], (0, 0), hp402)) rfl rfl ?_
                                       refine bs_lit (k := 1) rfl rfl fun z406 hz406 => ?_
                                       refine Ev.step (j := 97) (s' := ([some (.ref 7), some (.ref a1), some (.ref 28), some (.int z307), some (.int k320)], [.int z307, .int z406, .int k320, .ref 29], (0, 0), hp402)) rfl rfl ?_
                                       first | (refine bs_sub rfl (by omega) (by omega) fun z407 hz407 => ?_) | (refine bs_any rfl fun z407 => ?_)
                                       have rz407 := n_range z407
                                       refine Ev.inlS (L := L_X10_slotOf) (nL := 2) rfl rfl (Nat.le_of_ble_eq_true rfl) ?_
                                       generalize hQ408 : (fun (o : ab_O) => Ev _ _ _ _) = Q408
                                       refine (show Ev (ab_T L_X10_slotOf) 0 ([some (.int k320), some (.int z407)], [], (0, 0), hp402) Q408 from ?_)
                                       exact by
                                        refine bs_lit (k := 2) rfl rfl fun z409 hz409 => ?_
                                        refine Ev.step (j := 2) (s' := ([some (.int k320), some (.int z407)], [.int k320, .int z409], (0, 0), hp402)) rfl rfl ?_
                                        refine bs_mul (2) rfl (Or.inl hz409) (by rw [hz409]; omega) (by rw [hz409]; omega) fun z410 hz410 => ?_
                                        rw [hz409] at hz410
                                        refine Ev.step (j := 4) (s' := ([some (.int k320), some (.int z407)], [.int z407, .int z410], (0, 0), hp402)) rfl rfl ?_
                                        first | (refine bs_add rfl (by omega) (by omega) fun z411 hz411 => ?_) | (refine bs_any rfl fun z411 => ?_)
                                        have rz411 := n_range z411
                                        refine Ev.ret rfl rfl ?_
                                        rw [← hQ408]
                                        refine (show Ev _ 101 ([some (.ref 7), some (.ref a1), some (.ref 28), some (.int z307), some (.int k320)], [.int z411, .ref 29], (0, 0), hp402) _ from ?_)
                                        exact by
                                         refine Ev.step (j := 102) (s' := ([some (.ref 7), some (.ref a1), some (.ref 28), some (.int z307), some (.int k320)], [.int z411, .ref 29, .int z411, .ref 29], (0, 0), hp402)) rfl rfl ?_
                                         refine bs_ld (g := 163) 0 11 (0, 999) rfl Hhp402 (bs_R.uq Hhp402 (g := 163) rfl) (by decide) rfl (by decide) (by decide) rfl (by decide) (by omega) (by omega) fun z412 hz412 lz412 gz412 => ?_
                                         dsimp only at lz412 gz412
                                         have eyv : z412.toInt = yv := Option.some.inj ((bs_at hz412 (show _ = 2 * k320.toInt.toNat + 1 - fr by omega)).symm.trans ((ehp402 _ _ (Or.inr (by omega))).trans hyv))
                                         refine Ev.step (j := 104) (s' := ([some (.ref 7), some (.ref a1), some (.ref 28), some (.int z307), some (.int k320)], [.ref 7, .int z412, .int z411, .ref 29], (0, 0), hp402)) rfl rfl ?_
                                         refine bs_getU (g := 1) (g1 := 100) rfl rfl Hhp402 (bs_R.uq Hhp402 (g := 1) rfl) (by decide) rfl rfl ?_
                                         refine Ev.step (j := 109) (s' := ([some (.ref 7), some (.ref a1), some (.ref 28), some (.int z307), some (.int k320)], [.int k320, .ref 8, .int z412, .int z411, .ref 29], (0, 0), hp402)) rfl rfl ?_
                                         refine bs_ld (g := 100) 0 5 (-2147483648, 2147483647) rfl Hhp402 (bs_R.uq Hhp402 (g := 100) rfl) (by decide) rfl (by decide) (by decide) rfl (by decide) (by omega) (by omega) fun z413 hz413 lz413 gz413 => ?_
                                         dsimp only at lz413 gz413
                                         have e414 : z413.toInt = fv := Option.some.inj (hz413.symm.trans h405)
                                         first | (refine bs_add rfl (by omega) (by omega) fun z415 hz415 => ?_) | (refine bs_any rfl fun z415 => ?_)
                                         have rz415 := n_range z415
                                         refine bs_st (W := [(163, 0, 11)]) (g := 163) 0 11 (0, 999) rfl Hhp402 (bs_R.uq Hhp402 (g := 163) rfl) (by decide) rfl rfl (by decide) rfl rfl (by omega) (by omega) (by dsimp only; omega) (by dsimp only; omega) fun hp416 Hhp416 fhp416 rhp416 ehp416 qhp416 nhp416 => ?_
                                         have Fhp416 := sf_fr_tr Fhp402 (sf_fr_wider (W := [(1, 2, 3), (14, 7, 9), (100, 0, 5), (101, 0, 5), (163, 0, 11), (165, 0, 11), (166, 0, 11), (167, 0, 7), (168, 0, 7), (169, 0, 63)]) rfl fhp416)
                                         have h417 : sf_rd hp416 28 7 = some z12.toInt := (ehp416 _ _ (Or.inl (by decide))).trans h403
                                         have h418 : sf_rd hp416 a1 8 = some z327.toInt := (ehp416 _ _ (Or.inl (bs_nq (ra1.fr Fhp402) (bs_R.uq Hhp402 (g := 163) rfl) (by decide)))).trans h404
                                         have h419 : sf_rd hp416 8 k320.toInt.toNat = some fv := (ehp416 _ _ (Or.inl (by decide))).trans h405
                                         refine Ev.step (j := 113) (s' := ([some (.ref 7), some (.ref a1), some (.ref 28), some (.int z307), some (.int k320)], [.ref 28], (0, 0), hp416)) rfl rfl ?_
                                         exact by
                                          refine bs_getU (g := 14) (g1 := 166) rfl rfl Hhp416 (bs_R.uq Hhp416 (g := 14) rfl) (by decide) rfl rfl ?_
                                          refine Ev.step (j := 118) (s' := ([some (.ref 7), some (.ref a1), some (.ref 28), some (.int z307), some (.int k320)], [.int k320, .ref 32], (0, 0), hp416)) rfl rfl ?_
                                          refine bs_lit (k := 1) rfl rfl fun z420 hz420 => ?_
                                          refine Ev.step (j := 120) (s' := ([some (.ref 7), some (.ref a1), some (.ref 28), some (.int z307), some (.int k320)], [.int z307, .int z420, .int k320, .ref 32], (0, 0), hp416)) rfl rfl ?_
                                          first | (refine bs_sub rfl (by omega) (by omega) fun z421 hz421 => ?_) | (refine bs_any rfl fun z421 => ?_)
                                          have rz421 := n_range z421
                                          refine Ev.inlS (L := L_X10_slotOf) (nL := 2) rfl rfl (Nat.le_of_ble_eq_true rfl) ?_
                                          generalize hQ422 : (fun (o : ab_O) => Ev _ _ _ _) = Q422
                                          refine (show Ev (ab_T L_X10_slotOf) 0 ([some (.int k320), some (.int z421)], [], (0, 0), hp416) Q422 from ?_)
                                          exact by
                                           refine bs_lit (k := 2) rfl rfl fun z423 hz423 => ?_
                                           refine Ev.step (j := 2) (s' := ([some (.int k320), some (.int z421)], [.int k320, .int z423], (0, 0), hp416)) rfl rfl ?_
                                           refine bs_mul (2) rfl (Or.inl hz423) (by rw [hz423]; omega) (by rw [hz423]; omega) fun z424 hz424 => ?_
                                           rw [hz423] at hz424
                                           refine Ev.step (j := 4) (s' := ([some (.int k320), some (.int z421)], [.int z421, .int z424], (0, 0), hp416)) rfl rfl ?_
                                           first | (refine bs_add rfl (by omega) (by omega) fun z425 hz425 => ?_) | (refine bs_any rfl fun z425 => ?_)
                                           have rz425 := n_range z425
                                           refine Ev.ret rfl rfl ?_
                                           rw [← hQ422]
                                           refine (show Ev _ 124 ([some (.ref 7), some (.ref a1), some (.ref 28), some (.int z307), some (.int k320)], [.int z425, .ref 32], (0, 0), hp416) _ from ?_)
                                           exact by
                                            refine Ev.step (j := 125) (s' := ([some (.ref 7), some (.ref a1), some (.ref 28), some (.int z307), some (.int k320)], [.int z425, .ref 32, .int z425, .ref 32], (0, 0), hp416)) rfl rfl ?_
                                            refine bs_ld (g := 166) 0 11 (-2147483648, 2147483647) rfl Hhp416 (bs_R.uq Hhp416 (g := 166) rfl) (by decide) rfl (by decide) (by decide) rfl (by decide) (by omega) (by omega) fun z426 hz426 lz426 gz426 => ?_
                                            dsimp only at lz426 gz426
                                            refine Ev.step (j := 127) (s' := ([some (.ref 7), some (.ref a1), some (.ref 28), some (.int z307), some (.int k320)], [.ref 7, .int z426, .int z425, .ref 32], (0, 0), hp416)) rfl rfl ?_
                                            refine bs_getU (g := 1) (g1 := 100) rfl rfl Hhp416 (bs_R.uq Hhp416 (g := 1) rfl) (by decide) rfl rfl ?_
                                            refine Ev.step (j := 132) (s' := ([some (.ref 7), some (.ref a1), some (.ref 28), some (.int z307), some (.int k320)], [.int k320, .ref 8, .int z426, .int z425, .ref 32], (0, 0), hp416)) rfl rfl ?_
                                            refine bs_ld (g := 100) 0 5 (-2147483648, 2147483647) rfl Hhp416 (bs_R.uq Hhp416 (g := 100) rfl) (by decide) rfl (by decide) (by decide) rfl (by decide) (by omega) (by omega) fun z427 hz427 lz427 gz427 => ?_
                                            dsimp only at lz427 gz427
                                            have e428 : z427.toInt = fv := Option.some.inj (hz427.symm.trans h419)
                                            first | (refine bs_add rfl (by omega) (by omega) fun z429 hz429 => ?_) | (refine bs_any rfl fun z429 => ?_)
                                            have rz429 := n_range z429
                                            refine bs_st (W := [(166, 0, 11)]) (g := 166) 0 11 (-2147483648, 2147483647) rfl Hhp416 (bs_R.uq Hhp416 (g := 166) rfl) (by decide) rfl rfl (by decide) rfl rfl (by omega) (by omega) (by dsimp only; omega) (by dsimp only; omega) fun hp430 Hhp430 fhp430 rhp430 ehp430 qhp430 nhp430 => ?_
                                            have Fhp430 := sf_fr_tr Fhp416 (sf_fr_wider (W := [(1, 2, 3), (14, 7, 9), (100, 0, 5), (101, 0, 5), (163, 0, 11), (165, 0, 11), (166, 0, 11), (167, 0, 7), (168, 0, 7), (169, 0, 63)]) rfl fhp430)
                                            have h431 : sf_rd hp430 28 7 = some z12.toInt := (ehp430 _ _ (Or.inl (by decide))).trans h417
                                            have h432 : sf_rd hp430 a1 8 = some z327.toInt := (ehp430 _ _ (Or.inl (bs_nq (ra1.fr Fhp416) (bs_R.uq Hhp416 (g := 166) rfl) (by decide)))).trans h418
                                            have h433 : sf_rd hp430 8 k320.toInt.toNat = some fv := (ehp430 _ _ (Or.inl (by decide))).trans h419
                                            have h434 : sf_rd hp430 29 z411.toInt.toNat = some z415.toInt := (ehp430 _ _ (Or.inl (by decide))).trans rhp416
                                            refine bs_iinc (1) rfl rfl rfl rfl (by omega) (by omega) fun z435 hz435 => ?_
                                            exact by
                                             refine (show Ev _ 138 ([some (.ref 7), some (.ref a1), some (.ref 28), some (.int z307), some (.int z435)], [], (0, 0), hp430) _ from ?_)
                                             refine Ev.step (j := 59) (s' := ([some (.ref 7), some (.ref a1), some (.ref 28), some (.int z307), some (.int z435)], [], (0, 0), hp430)) rfl rfl ?_
                                             have FR3 : ∀ q : Nat, z435.toInt ≤ (q : Int) → (q : Int) < G → fr_ok hp430 29 fr q := fun q h1 h2 => fr_ok_same (i326 q (by omega) h2) ((ehp430 _ _ (Or.inl (by decide))).trans ((ehp416 _ _ (Or.inl (by decide))).trans (ehp402 _ _ (Or.inl (by decide))))) ((ehp430 _ _ (Or.inl (by decide))).trans ((ehp416 _ _ (Or.inr (by omega))).trans (ehp402 _ _ (Or.inr (by omega))))) ((ehp430 _ _ (Or.inl (by decide))).trans ((ehp416 _ _ (Or.inr (by omega))).trans (ehp402 _ _ (Or.inr (by omega)))))
                                             refine ih323 (z435, hp430, t322) ⟨Hhp430, Fhp430, h431, (by first | omega | assumption), (by first | exact FR3 | exact fun q _ hq => i315 q hq)⟩ ?_
                                             show (6 - z435.toInt).toNat < (6 - k320.toInt).toNat
                                             omega
                               · skip
                                 refine Ev.step (j := 18) (s' := ([some (.ref 7), some (.ref a1), some (.ref 28), some (.int z307), some (.int k309)], [.ref 7], (0, 0), hp310)) rfl rfl ?_
                                 exact by
                                  refine bs_getI 1 rfl rfl rfl Hhp310 (bs_R.uq Hhp310 (g := 1) rfl) (by decide) rfl fun z436 hz436 lz436 gz436 => ?_
                                  refine bs_lit (k := 1) rfl rfl fun z437 hz437 => ?_
                                  refine Ev.step (j := 24) (s' := ([some (.ref 7), some (.ref a1), some (.ref 28), some (.int z307), some (.int k309)], [.int k309, .int z437, .int z436], (0, 0), hp310)) rfl rfl ?_
                                  refine bs_any rfl fun z438 => ?_
                                  have rz438 := n_range z438
                                  refine bs_any rfl fun z439 => ?_
                                  have rz439 := n_range z439
                                  refine bs_ifeq rfl (fun c440 => ?_) (fun c440 => ?_)
                                  · skip
                                    have c441 : z439.toInt = 0 := by omega
                                    refine bs_iinc (1) rfl rfl rfl rfl (by omega) (by omega) fun z442 hz442 => ?_
                                    exact by
                                     refine (show Ev _ 53 ([some (.ref 7), some (.ref a1), some (.ref 28), some (.int z307), some (.int z442)], [], (0, 0), hp310) _ from ?_)
                                     refine Ev.step (j := 8) (s' := ([some (.ref 7), some (.ref a1), some (.ref 28), some (.int z307), some (.int z442)], [], (0, 0), hp310)) rfl rfl ?_
                                     have FR2 : ∀ q : Nat, (q : Int) < G → fr_ok hp310 29 fr q := fun q hq => fr_ok_same (i315 q hq) rfl rfl rfl
                                     refine ih312 (z442, hp310, t311) ⟨Hhp310, Fhp310, i313, (by first | omega | assumption), (by first | exact FR2 | exact FR)⟩ ?_
                                     show (8 - z442.toInt).toNat < (8 - k309.toInt).toNat
                                     omega
                                  · skip
                                    refine Ev.step (j := 30) (s' := ([some (.ref 7), some (.ref a1), some (.ref 28), some (.int z307), some (.int k309)], [.ref 28], (0, 0), hp310)) rfl rfl ?_
                                    exact by
                                     refine bs_getU (g := 14) (g1 := 167) rfl rfl Hhp310 (bs_R.uq Hhp310 (g := 14) rfl) (by decide) rfl rfl ?_
                                     refine Ev.step (j := 35) (s' := ([some (.ref 7), some (.ref a1), some (.ref 28), some (.int z307), some (.int k309)], [.int k309, .ref 33], (0, 0), hp310)) rfl rfl ?_
                                     refine bs_lit (k := 1) rfl rfl fun z443 hz443 => ?_
                                     refine Ev.step (j := 37) (s' := ([some (.ref 7), some (.ref a1), some (.ref 28), some (.int z307), some (.int k309)], [.int z307, .int z443, .int k309, .ref 33], (0, 0), hp310)) rfl rfl ?_
                                     first | (refine bs_sub rfl (by omega) (by omega) fun z444 hz444 => ?_) | (refine bs_any rfl fun z444 => ?_)
                                     have rz444 := n_range z444
                                     refine bs_st (W := [(167, 0, 7)]) (g := 167) 0 7 (-2147483648, 2147483647) rfl Hhp310 (bs_R.uq Hhp310 (g := 167) rfl) (by decide) rfl rfl (by decide) rfl rfl (by omega) (by omega) (by dsimp only; omega) (by dsimp only; omega) fun hp445 Hhp445 fhp445 rhp445 ehp445 qhp445 nhp445 => ?_
                                     have Fhp445 := sf_fr_tr Fhp310 (sf_fr_wider (W := [(1, 2, 3), (14, 7, 9), (100, 0, 5), (101, 0, 5), (163, 0, 11), (165, 0, 11), (166, 0, 11), (167, 0, 7), (168, 0, 7), (169, 0, 63)]) rfl fhp445)
                                     have h446 : sf_rd hp445 28 7 = some z12.toInt := (ehp445 _ _ (Or.inl (by decide))).trans i313
                                     have h447 : sf_rd hp445 a1 9 = some z316.toInt := (ehp445 _ _ (Or.inl (bs_nq (ra1.fr Fhp310) (bs_R.uq Hhp310 (g := 167) rfl) (by decide)))).trans hz316
                                     have h448 : sf_rd hp445 7 2 = some z436.toInt := (ehp445 _ _ (Or.inl (by decide))).trans hz436
                                     refine Ev.step (j := 40) (s' := ([some (.ref 7), some (.ref a1), some (.ref 28), some (.int z307), some (.int k309)], [.ref 28], (0, 0), hp445)) rfl rfl ?_
                                     exact by
                                      refine bs_getU (g := 14) (g1 := 168) rfl rfl Hhp445 (bs_R.uq Hhp445 (g := 14) rfl) (by decide) rfl rfl ?_
                                      refine Ev.step (j := 45) (s' := ([some (.ref 7), some (.ref a1), some (.ref 28), some (.int z307), some (.int k309)], [.int k309, .ref 34], (0, 0), hp445)) rfl rfl ?_
                                      refine Ev.step (j := 46) (s' := ([some (.ref 7), some (.ref a1), some (.ref 28), some (.int z307), some (.int k309)], [.int k309, .ref 34, .int k309, .ref 34], (0, 0), hp445)) rfl rfl ?_
                                      refine bs_ld (g := 168) 0 7 (-2147483648, 2147483647) rfl Hhp445 (bs_R.uq Hhp445 (g := 168) rfl) (by decide) rfl (by decide) (by decide) rfl (by decide) (by omega) (by omega) fun z449 hz449 lz449 gz449 => ?_
                                      dsimp only at lz449 gz449
                                      refine bs_lit (k := 1) rfl rfl fun z450 hz450 => ?_
                                      first | (refine bs_add rfl (by omega) (by omega) fun z451 hz451 => ?_) | (refine bs_any rfl fun z451 => ?_)
                                      have rz451 := n_range z451
                                      refine bs_st (W := [(168, 0, 7)]) (g := 168) 0 7 (-2147483648, 2147483647) rfl Hhp445 (bs_R.uq Hhp445 (g := 168) rfl) (by decide) rfl rfl (by decide) rfl rfl (by omega) (by omega) (by dsimp only; omega) (by dsimp only; omega) fun hp452 Hhp452 fhp452 rhp452 ehp452 qhp452 nhp452 => ?_
                                      have Fhp452 := sf_fr_tr Fhp445 (sf_fr_wider (W := [(1, 2, 3), (14, 7, 9), (100, 0, 5), (101, 0, 5), (163, 0, 11), (165, 0, 11), (166, 0, 11), (167, 0, 7), (168, 0, 7), (169, 0, 63)]) rfl fhp452)
                                      have h453 : sf_rd hp452 28 7 = some z12.toInt := (ehp452 _ _ (Or.inl (by decide))).trans h446
                                      have h454 : sf_rd hp452 a1 9 = some z316.toInt := (ehp452 _ _ (Or.inl (bs_nq (ra1.fr Fhp445) (bs_R.uq Hhp445 (g := 168) rfl) (by decide)))).trans h447
                                      have h455 : sf_rd hp452 7 2 = some z436.toInt := (ehp452 _ _ (Or.inl (by decide))).trans h448
                                      have h456 : sf_rd hp452 33 k309.toInt.toNat = some z444.toInt := (ehp452 _ _ (Or.inl (by decide))).trans rhp445
                                      refine bs_iinc (1) rfl rfl rfl rfl (by omega) (by omega) fun z457 hz457 => ?_
                                      exact by
                                       refine (show Ev _ 53 ([some (.ref 7), some (.ref a1), some (.ref 28), some (.int z307), some (.int z457)], [], (0, 0), hp452) _ from ?_)
                                       refine Ev.step (j := 8) (s' := ([some (.ref 7), some (.ref a1), some (.ref 28), some (.int z307), some (.int z457)], [], (0, 0), hp452)) rfl rfl ?_
                                       have FR2 : ∀ q : Nat, (q : Int) < G → fr_ok hp452 29 fr q := fun q hq => fr_ok_same (i315 q hq) ((ehp452 _ _ (Or.inl (by decide))).trans (ehp445 _ _ (Or.inl (by decide)))) ((ehp452 _ _ (Or.inl (by decide))).trans (ehp445 _ _ (Or.inl (by decide)))) ((ehp452 _ _ (Or.inl (by decide))).trans (ehp445 _ _ (Or.inl (by decide))))
                                       refine ih312 (z457, hp452, t311) ⟨Hhp452, Fhp452, h453, (by first | omega | assumption), (by first | exact FR2 | exact FR)⟩ ?_
                                       show (8 - z457.toInt).toNat < (8 - k309.toInt).toNat
                                       omega
                          · skip
                            refine Ev.step (j := 128) (s' := ([some (.ref 7), some (.ref a1), some (.ref 28), some (.int z23), some (.int z28), some (.int z40), some (.int k291), o294], [.ref 28], (0, 0), hp292)) rfl rfl ?_
                            exact by
                             refine Ev.step (j := 129) (s' := ([some (.ref 7), some (.ref a1), some (.ref 28), some (.int z23), some (.int z28), some (.int z40), some (.int k291), o294], [.ref a1, .ref 28], (0, 0), hp292)) rfl rfl ?_
                             refine Ev.step (j := 131) (s' := ([some (.ref 7), some (.ref a1), some (.ref 28), some (.int z23), some (.int z28), some (.int z40), some (.int k291), o294], [.int k291, .ref a1, .ref 28], (0, 0), hp292)) rfl rfl ?_
                             refine bs_lit (k := 1) rfl rfl fun z458 hz458 => ?_
                             refine Ev.step (j := 133) (s' := ([some (.ref 7), some (.ref a1), some (.ref 28), some (.int z23), some (.int z28), some (.int z40), some (.int k291), o294], [.int z23, .int z458, .int k291, .ref a1, .ref 28], (0, 0), hp292)) rfl rfl ?_
                             first | (refine bs_sub rfl (by omega) (by omega) fun z459 hz459 => ?_) | (refine bs_any rfl fun z459 => ?_)
                             have rz459 := n_range z459
                             refine Ev.inlS (L := L_X10_slotOf) (nL := 2) rfl rfl (Nat.le_of_ble_eq_true rfl) ?_
                             generalize hQ460 : (fun (o : ab_O) => Ev _ _ _ _) = Q460
                             refine (show Ev (ab_T L_X10_slotOf) 0 ([some (.int k291), some (.int z459)], [], (0, 0), hp292) Q460 from ?_)
                             exact by
                              refine bs_lit (k := 2) rfl rfl fun z461 hz461 => ?_
                              refine Ev.step (j := 2) (s' := ([some (.int k291), some (.int z459)], [.int k291, .int z461], (0, 0), hp292)) rfl rfl ?_
                              refine bs_mul (2) rfl (Or.inl hz461) (by rw [hz461]; omega) (by rw [hz461]; omega) fun z462 hz462 => ?_
                              rw [hz461] at hz462
                              refine Ev.step (j := 4) (s' := ([some (.int k291), some (.int z459)], [.int z459, .int z462], (0, 0), hp292)) rfl rfl ?_
                              first | (refine bs_add rfl (by omega) (by omega) fun z463 hz463 => ?_) | (refine bs_any rfl fun z463 => ?_)
                              have rz463 := n_range z463
                              refine Ev.ret rfl rfl ?_
                              rw [← hQ460]
                              refine (show Ev _ 137 ([some (.ref 7), some (.ref a1), some (.ref 28), some (.int z23), some (.int z28), some (.int z40), some (.int k291), o294], [.int z463, .ref a1, .ref 28], (0, 0), hp292) _ from ?_)
                              exact by
                               refine Ev.inl (L := (L_X6_lackAt Z_X7_amountOf)) (nL := 3) rfl (bs_rcv (g := 14) Hhp292 (bs_R.uq Hhp292 (g := 14) rfl) (by decide) rfl) rfl (Nat.le_of_ble_eq_true rfl) ?_
                               generalize hQ464 : (fun (o : ab_O) => Ev _ _ _ _) = Q464
                               refine (show Ev (ab_T (L_X6_lackAt Z_X7_amountOf)) 0 ([some (.ref 28), some (.ref a1), some (.int z463)], [], (0, 0), hp292) Q464 from ?_)
                               refine bs_lit (k := 0) rfl rfl fun z465 hz465 => ?_
                               refine Ev.step (j := 2) (s' := ([some (.ref 28), some (.ref a1), some (.int z463)], [.ref a1, .int z465], (0, 0), hp292)) rfl rfl ?_
                               refine bs_lit (k := 1) rfl rfl fun z466 hz466 => ?_
                               refine Ev.step (j := 4) (s' := ([some (.ref 28), some (.ref a1), some (.int z463)], [.int z463, .int z466, .ref a1, .int z465], (0, 0), hp292)) rfl rfl ?_
                               refine Ev.inl (L := L_X7_amountOf) (nL := 3) rfl (bs_rcv (g := 7) Hhp292 (ra1.fr Fhp292) (by decide) rfl) rfl (Nat.le_of_ble_eq_true rfl) ?_
                               generalize hQ467 : (fun (o : ab_O) => Ev _ _ _ _) = Q467
                               refine (show Ev (ab_T L_X7_amountOf) 0 ([some (.ref a1), some (.int z466), some (.int z463)], [], (0, 0), hp292) Q467 from ?_)
                               exact by
                                refine Ev.step (j := 1) (s' := ([some (.ref a1), some (.int z466), some (.int z463)], [.ref a1], (0, 0), hp292)) rfl rfl ?_
                                refine bs_getR (g := 7) (g1 := 119) rfl rfl Hhp292 (ra1.fr Fhp292) (by decide) rfl fun b468 qb468 rb468 => ?_
                                refine Ev.step (j := 5) (s' := ([some (.ref a1), some (.int z466), some (.int z463)], [.int z466, .ref b468], (0, 0), hp292)) rfl rfl ?_
                                refine bs_lit (k := 12) rfl rfl fun z469 hz469 => ?_
                                refine bs_mul (12) rfl (Or.inr hz469) (by rw [hz469]; omega) (by rw [hz469]; omega) fun z470 hz470 => ?_
                                rw [hz469] at hz470
                                refine Ev.step (j := 9) (s' := ([some (.ref a1), some (.int z466), some (.int z463)], [.int z463, .int z470, .ref b468], (0, 0), hp292)) rfl rfl ?_
                                first | (refine bs_add rfl (by omega) (by omega) fun z471 hz471 => ?_) | (refine bs_any rfl fun z471 => ?_)
                                have rz471 := n_range z471
                                refine bs_ld (g := 119) 12 23 (0, 250) rfl Hhp292 rb468 (by decide) rfl (by decide) (by decide) rfl (by decide) (by omega) (by omega) fun z472 hz472 lz472 gz472 => ?_
                                dsimp only at lz472 gz472
                                refine Ev.ret rfl rfl ?_
                                rw [← hQ467]
                                refine (show Ev _ 7 ([some (.ref 28), some (.ref a1), some (.int z463)], [.int z472, .int z465], (0, 0), hp292) _ from ?_)
                                exact by
                                 refine Ev.step (j := 8) (s' := ([some (.ref 28), some (.ref a1), some (.int z463)], [.ref 28, .int z472, .int z465], (0, 0), hp292)) rfl rfl ?_
                                 refine bs_getU (g := 14) (g1 := 163) rfl rfl Hhp292 (bs_R.uq Hhp292 (g := 14) rfl) (by decide) rfl rfl ?_
                                 refine Ev.step (j := 12) (s' := ([some (.ref 28), some (.ref a1), some (.int z463)], [.int z463, .ref 29, .int z472, .int z465], (0, 0), hp292)) rfl rfl ?_
                                 refine bs_ld (g := 163) 0 11 (0, 999) rfl Hhp292 (bs_R.uq Hhp292 (g := 163) rfl) (by decide) rfl (by decide) (by decide) rfl (by decide) (by omega) (by omega) fun z473 hz473 lz473 gz473 => ?_
                                 dsimp only at lz473 gz473
                                 first | (refine bs_sub rfl (by omega) (by omega) fun z474 hz474 => ?_) | (refine bs_any rfl fun z474 => ?_)
                                 have rz474 := n_range z474
                                 refine bs_max rfl rfl fun z475 hz475 => ?_
                                 refine Ev.ret rfl rfl ?_
                                 rw [← hQ464]
                                 refine (show Ev _ 140 ([some (.ref 7), some (.ref a1), some (.ref 28), some (.int z23), some (.int z28), some (.int z40), some (.int k291), o294], [.int z475], (0, 0), hp292) _ from ?_)
                                 exact by
                                  refine Ev.step (j := 142) (s' := ([some (.ref 7), some (.ref a1), some (.ref 28), some (.int z23), some (.int z28), some (.int z40), some (.int k291), some (.int z475)], [], (0, 0), hp292)) rfl rfl ?_
                                  refine Ev.step (j := 143) (s' := ([some (.ref 7), some (.ref a1), some (.ref 28), some (.int z23), some (.int z28), some (.int z40), some (.int k291), some (.int z475)], [.ref 7], (0, 0), hp292)) rfl rfl ?_
                                  refine bs_getU (g := 1) (g1 := 101) rfl rfl Hhp292 (bs_R.uq Hhp292 (g := 1) rfl) (by decide) rfl rfl ?_
                                  refine Ev.step (j := 148) (s' := ([some (.ref 7), some (.ref a1), some (.ref 28), some (.int z23), some (.int z28), some (.int z40), some (.int k291), some (.int z475)], [.int k291, .ref 9], (0, 0), hp292)) rfl rfl ?_
                                  refine Ev.step (j := 150) (s' := ([some (.ref 7), some (.ref a1), some (.ref 28), some (.int z23), some (.int z28), some (.int z40), some (.int k291), some (.int z475)], [.int z28, .int k291, .ref 9], (0, 0), hp292)) rfl rfl ?_
                                  refine Ev.step (j := 151) (s' := ([some (.ref 7), some (.ref a1), some (.ref 28), some (.int z23), some (.int z28), some (.int z40), some (.int k291), some (.int z475)], [.ref 7, .int z28, .int k291, .ref 9], (0, 0), hp292)) rfl rfl ?_
                                  refine bs_getI 1 rfl rfl rfl Hhp292 (bs_R.uq Hhp292 (g := 1) rfl) (by decide) rfl fun z476 hz476 lz476 gz476 => ?_
                                  first | (refine bs_sub rfl (by omega) (by omega) fun z477 hz477 => ?_) | (refine bs_any rfl fun z477 => ?_)
                                  have rz477 := n_range z477
                                  refine bs_st (W := [(101, 0, 5)]) (g := 101) 0 5 (-2147483648, 2147483647) rfl Hhp292 (bs_R.uq Hhp292 (g := 101) rfl) (by decide) rfl rfl (by decide) rfl rfl (by omega) (by omega) (by dsimp only; omega) (by dsimp only; omega) fun hp478 Hhp478 fhp478 rhp478 ehp478 qhp478 nhp478 => ?_
                                  have Fhp478 := sf_fr_tr Fhp292 (sf_fr_wider (W := [(1, 2, 3), (14, 7, 9), (100, 0, 5), (101, 0, 5), (163, 0, 11), (165, 0, 11), (166, 0, 11), (167, 0, 7), (168, 0, 7), (169, 0, 63)]) rfl fhp478)
                                  have h479 : sf_rd hp478 28 7 = some z12.toInt := (ehp478 _ _ (Or.inl (by decide))).trans i296
                                  have h480 : sf_rd hp478 a1 8 = some z299.toInt := (ehp478 _ _ (Or.inl (bs_nq (ra1.fr Fhp292) (bs_R.uq Hhp292 (g := 101) rfl) (by decide)))).trans hz299
                                  have h481 : sf_rd hp478 b468 z471.toInt.toNat = some z472.toInt := (ehp478 _ _ (Or.inl (bs_nq rb468 (bs_R.uq Hhp292 (g := 101) rfl) (by decide)))).trans hz472
                                  have h482 : sf_rd hp478 29 z463.toInt.toNat = some z473.toInt := (ehp478 _ _ (Or.inl (by decide))).trans hz473
                                  have h483 : sf_rd hp478 7 3 = some z476.toInt := (ehp478 _ _ (Or.inl (by decide))).trans hz476
                                  have r484 := rb468.fr fhp478
                                  refine Ev.step (j := 157) (s' := ([some (.ref 7), some (.ref a1), some (.ref 28), some (.int z23), some (.int z28), some (.int z40), some (.int k291), some (.int z475)], [.ref 7], (0, 0), hp478)) rfl rfl ?_
                                  exact by
                                   refine bs_getU (g := 1) (g1 := 100) rfl rfl Hhp478 (bs_R.uq Hhp478 (g := 1) rfl) (by decide) rfl rfl ?_
                                   refine Ev.step (j := 162) (s' := ([some (.ref 7), some (.ref a1), some (.ref 28), some (.int z23), some (.int z28), some (.int z40), some (.int k291), some (.int z475)], [.int k291, .ref 8], (0, 0), hp478)) rfl rfl ?_
                                   refine Ev.step (j := 163) (s' := ([some (.ref 7), some (.ref a1), some (.ref 28), some (.int z23), some (.int z28), some (.int z40), some (.int k291), some (.int z475)], [.ref 28, .int k291, .ref 8], (0, 0), hp478)) rfl rfl ?_
                                   refine bs_getU (g := 14) (g1 := 163) rfl rfl Hhp478 (bs_R.uq Hhp478 (g := 14) rfl) (by decide) rfl rfl ?_
                                   refine Ev.step (j := 168) (s' := ([some (.ref 7), some (.ref a1), some (.ref 28), some (.int z23), some (.int z28), some (.int z40), some (.int k291), some (.int z475)], [.int k291, .ref 29, .int k291, .ref 8], (0, 0), hp478)) rfl rfl ?_
                                   refine Ev.step (j := 169) (s' := ([some (.ref 7), some (.ref a1), some (.ref 28), some (.int z23), some (.int z28), some (.int z40), some (.int k291), some (.int z475)], [.int z23, .int k291, .ref 29, .int k291, .ref 8], (0, 0), hp478)) rfl rfl ?_
                                   refine Ev.inlS (L := L_X10_slotOf) (nL := 2) rfl rfl (Nat.le_of_ble_eq_true rfl) ?_
                                   generalize hQ485 : (fun (o : ab_O) => Ev _ _ _ _) = Q485
                                   refine (show Ev (ab_T L_X10_slotOf) 0 ([some (.int k291), some (.int z23)], [], (0, 0), hp478) Q485 from ?_)
                                   exact by
                                    refine bs_lit (k := 2) rfl rfl fun z486 hz486 => ?_
                                    refine Ev.step (j := 2) (s' := ([some (.int k291), some (.int z23)], [.int k291, .int z486], (0, 0), hp478)) rfl rfl ?_
                                    refine bs_mul (2) rfl (Or.inl hz486) (by rw [hz486]; omega) (by rw [hz486]; omega) fun z487 hz487 => ?_
                                    rw [hz486] at hz487
                                    refine Ev.step (j := 4) (s' := ([some (.int k291), some (.int z23)], [.int z23, .int z487], (0, 0), hp478)) rfl rfl ?_
                                    first | (refine bs_add rfl (by omega) (by omega) fun z488 hz488 => ?_) | (refine bs_any rfl fun z488 => ?_)
                                    have rz488 := n_range z488
                                    refine Ev.ret rfl rfl ?_
                                    rw [← hQ485]
                                    refine (show Ev _ 172 ([some (.ref 7), some (.ref a1), some (.ref 28), some (.int z23), some (.int z28), some (.int z40), some (.int k291), some (.int z475)], [.int z488, .ref 29, .int k291, .ref 8], (0, 0), hp478) _ from ?_)
                                    exact by
                                     refine bs_ld (g := 163) 0 11 (0, 999) rfl Hhp478 (bs_R.uq Hhp478 (g := 163) rfl) (by decide) rfl (by decide) (by decide) rfl (by decide) (by omega) (by omega) fun z489 hz489 lz489 gz489 => ?_
                                     dsimp only at lz489 gz489
                                     refine Ev.step (j := 175) (s' := ([some (.ref 7), some (.ref a1), some (.ref 28), some (.int z23), some (.int z28), some (.int z40), some (.int k291), some (.int z475)], [.int z475, .int z489, .int k291, .ref 8], (0, 0), hp478)) rfl rfl ?_
                                     refine Ev.step (j := 176) (s' := ([some (.ref 7), some (.ref a1), some (.ref 28), some (.int z23), some (.int z28), some (.int z40), some (.int k291), some (.int z475)], [.ref 7, .int z475, .int z489, .int k291, .ref 8], (0, 0), hp478)) rfl rfl ?_
                                     refine bs_getU (g := 1) (g1 := 101) rfl rfl Hhp478 (bs_R.uq Hhp478 (g := 1) rfl) (by decide) rfl rfl ?_
                                     refine Ev.step (j := 181) (s' := ([some (.ref 7), some (.ref a1), some (.ref 28), some (.int z23), some (.int z28), some (.int z40), some (.int k291), some (.int z475)], [.int k291, .ref 9, .int z475, .int z489, .int k291, .ref 8], (0, 0), hp478)) rfl rfl ?_
                                     refine bs_ld (g := 101) 0 5 (-2147483648, 2147483647) rfl Hhp478 (bs_R.uq Hhp478 (g := 101) rfl) (by decide) rfl (by decide) (by decide) rfl (by decide) (by omega) (by omega) fun z490 hz490 lz490 gz490 => ?_
                                     dsimp only at lz490 gz490
                                     have e491 : z490.toInt = z477.toInt := Option.some.inj (hz490.symm.trans rhp478)
                                     refine Ev.inlS (L := L_X1_amountMoved) (nL := 3) rfl rfl (Nat.le_of_ble_eq_true rfl) ?_
                                     generalize hQ492 : (fun (o : ab_O) => Ev _ _ _ _) = Q492
                                     refine (show Ev (ab_T L_X1_amountMoved) 0 ([some (.int z489), some (.int z475), some (.int z490)], [], (0, 0), hp478) Q492 from ?_)
                                     exact by
                                      refine bs_lit (k := 0) rfl rfl fun z493 hz493 => ?_
                                      refine Ev.step (j := 2) (s' := ([some (.int z489), some (.int z475), some (.int z490)], [.int z489, .int z493], (0, 0), hp478)) rfl rfl ?_
                                      refine Ev.step (j := 3) (s' := ([some (.int z489), some (.int z475), some (.int z490)], [.int z475, .int z489, .int z493], (0, 0), hp478)) rfl rfl ?_
                                      refine Ev.step (j := 4) (s' := ([some (.int z489), some (.int z475), some (.int z490)], [.int z490, .int z475, .int z489, .int z493], (0, 0), hp478)) rfl rfl ?_
                                      refine bs_min rfl rfl fun z494 hz494 => ?_
                                      refine bs_min rfl rfl fun z495 hz495 => ?_
                                      refine bs_max rfl rfl fun z496 hz496 => ?_
                                      refine Ev.ret rfl rfl ?_
                                      rw [← hQ492]
                                      refine (show Ev _ 185 ([some (.ref 7), some (.ref a1), some (.ref 28), some (.int z23), some (.int z28), some (.int z40), some (.int k291), some (.int z475)], [.int z496, .int k291, .ref 8], (0, 0), hp478) _ from ?_)
                                      exact by
                                       refine bs_st (W := [(100, 0, 5)]) (g := 100) 0 5 (-2147483648, 2147483647) rfl Hhp478 (bs_R.uq Hhp478 (g := 100) rfl) (by decide) rfl rfl (by decide) rfl rfl (by omega) (by omega) (by dsimp only; omega) (by dsimp only; omega) fun hp497 Hhp497 fhp497 rhp497 ehp497 qhp497 nhp497 => ?_
                                       have Fhp497 := sf_fr_tr Fhp478 (sf_fr_wider (W := [(1, 2, 3), (14, 7, 9), (100, 0, 5), (101, 0, 5), (163, 0, 11), (165, 0, 11), (166, 0, 11), (167, 0, 7), (168, 0, 7), (169, 0, 63)]) rfl fhp497)
                                       have h498 : sf_rd hp497 28 7 = some z12.toInt := (ehp497 _ _ (Or.inl (by decide))).trans h479
                                       have h499 : sf_rd hp497 a1 8 = some z299.toInt := (ehp497 _ _ (Or.inl (bs_nq (ra1.fr Fhp478) (bs_R.uq Hhp478 (g := 100) rfl) (by decide)))).trans h480
                                       have h500 : sf_rd hp497 b468 z471.toInt.toNat = some z472.toInt := (ehp497 _ _ (Or.inl (bs_nq r484 (bs_R.uq Hhp478 (g := 100) rfl) (by decide)))).trans h481
                                       have h501 : sf_rd hp497 29 z463.toInt.toNat = some z473.toInt := (ehp497 _ _ (Or.inl (by decide))).trans h482
                                       have h502 : sf_rd hp497 7 3 = some z476.toInt := (ehp497 _ _ (Or.inl (by decide))).trans h483
                                       have h503 : sf_rd hp497 9 k291.toInt.toNat = some z477.toInt := (ehp497 _ _ (Or.inl (by decide))).trans rhp478
                                       have h504 : sf_rd hp497 29 z488.toInt.toNat = some z489.toInt := (ehp497 _ _ (Or.inl (by decide))).trans hz489
                                       have r505 := r484.fr fhp497
                                       refine Ev.step (j := 187) (s' := ([some (.ref 7), some (.ref a1), some (.ref 28), some (.int z23), some (.int z28), some (.int z40), some (.int k291), some (.int z475)], [.ref 7], (0, 0), hp497)) rfl rfl ?_
                                       exact by
                                        refine Ev.step (j := 188) (s' := ([some (.ref 7), some (.ref a1), some (.ref 28), some (.int z23), some (.int z28), some (.int z40), some (.int k291), some (.int z475)], [.ref 7, .ref 7], (0, 0), hp497)) rfl rfl ?_
                                        refine bs_getI 1 rfl rfl rfl Hhp497 (bs_R.uq Hhp497 (g := 1) rfl) (by decide) rfl fun z506 hz506 lz506 gz506 => ?_
                                        have e507 : z506.toInt = z476.toInt := Option.some.inj (hz506.symm.trans h502)
                                        refine Ev.step (j := 192) (s' := ([some (.ref 7), some (.ref a1), some (.ref 28), some (.int z23), some (.int z28), some (.int z40), some (.int k291), some (.int z475)], [.ref 7, .int z506, .ref 7], (0, 0), hp497)) rfl rfl ?_
                                        refine bs_getU (g := 1) (g1 := 100) rfl rfl Hhp497 (bs_R.uq Hhp497 (g := 1) rfl) (by decide) rfl rfl ?_
                                        refine Ev.step (j := 197) (s' := ([some (.ref 7), some (.ref a1), some (.ref 28), some (.int z23), some (.int z28), some (.int z40), some (.int k291), some (.int z475)], [.int k291, .ref 8, .int z506, .ref 7], (0, 0), hp497)) rfl rfl ?_
                                        refine bs_ld (g := 100) 0 5 (-2147483648, 2147483647) rfl Hhp497 (bs_R.uq Hhp497 (g := 100) rfl) (by decide) rfl (by decide) (by decide) rfl (by decide) (by omega) (by omega) fun z508 hz508 lz508 gz508 => ?_
                                        dsimp only at lz508 gz508
                                        have e509 : z508.toInt = z496.toInt := Option.some.inj (hz508.symm.trans rhp497)
                                        first | (refine bs_add rfl (by omega) (by omega) fun z510 hz510 => ?_) | (refine bs_any rfl fun z510 => ?_)
                                        have rz510 := n_range z510
                                        refine bs_putI (W := [(1, 3, 3)]) (g := 1) rfl rfl Hhp497 (bs_R.uq Hhp497 (g := 1) rfl) (by decide) rfl rfl rfl rfl (Or.inl rfl) (by omega) (by omega) fun hp511 Hhp511 fhp511 rhp511 ehp511 qhp511 nhp511 => ?_
                                        have Fhp511 := sf_fr_tr Fhp497 (sf_fr_wider (W := [(1, 2, 3), (14, 7, 9), (100, 0, 5), (101, 0, 5), (163, 0, 11), (165, 0, 11), (166, 0, 11), (167, 0, 7), (168, 0, 7), (169, 0, 63)]) rfl fhp511)
                                        have h512 : sf_rd hp511 28 7 = some z12.toInt := (ehp511 _ _ (Or.inl (by decide))).trans h498
                                        have h513 : sf_rd hp511 a1 8 = some z299.toInt := (ehp511 _ _ (Or.inl (bs_nq (ra1.fr Fhp497) (bs_R.uq Hhp497 (g := 1) rfl) (by decide)))).trans h499
                                        have h514 : sf_rd hp511 b468 z471.toInt.toNat = some z472.toInt := (ehp511 _ _ (Or.inl (bs_nq r505 (bs_R.uq Hhp497 (g := 1) rfl) (by decide)))).trans h500
                                        have h515 : sf_rd hp511 29 z463.toInt.toNat = some z473.toInt := (ehp511 _ _ (Or.inl (by decide))).trans h501
                                        have h516 : sf_rd hp511 9 k291.toInt.toNat = some z477.toInt := (ehp511 _ _ (Or.inl (by decide))).trans h503
                                        have h517 : sf_rd hp511 29 z488.toInt.toNat = some z489.toInt := (ehp511 _ _ (Or.inl (by decide))).trans h504
                                        have h518 : sf_rd hp511 8 k291.toInt.toNat = some z496.toInt := (ehp511 _ _ (Or.inl (by decide))).trans rhp497
                                        have r519 := r505.fr fhp511
                                        refine bs_iinc (1) rfl rfl rfl rfl (by omega) (by omega) fun z520 hz520 => ?_
                                        exact by
                                         refine (show Ev _ 205 ([some (.ref 7), some (.ref a1), some (.ref 28), some (.int z23), some (.int z28), some (.int z40), some (.int z520), some (.int z475)], [], (0, 0), hp511) _ from ?_)
                                         refine Ev.step (j := 118) (s' := ([some (.ref 7), some (.ref a1), some (.ref 28), some (.int z23), some (.int z28), some (.int z40), some (.int z520), some (.int z475)], [], (0, 0), hp511)) rfl rfl ?_
                                         have FQ : ∀ q : Nat, (q : Int) < z520.toInt → fr_ok hp511 29 fr q := by
                                           intro q hq
                                           by_cases hqk : (q : Int) < k291.toInt
                                           · exact fr_ok_same (i298 q hqk) ((ehp511 _ _ (Or.inl (by decide))).trans ((ehp497 _ _ (Or.inr (by omega))).trans (ehp478 _ _ (Or.inl (by decide))))) ((ehp511 _ _ (Or.inl (by decide))).trans ((ehp497 _ _ (Or.inl (by decide))).trans (ehp478 _ _ (Or.inl (by decide))))) ((ehp511 _ _ (Or.inl (by decide))).trans ((ehp497 _ _ (Or.inl (by decide))).trans (ehp478 _ _ (Or.inl (by decide)))))
                                           · have eq : q = k291.toInt.toNat := by omega
                                             subst eq
                                             exact ⟨z496.toInt, z489.toInt, z473.toInt, h518, ((ehp511 _ _ (Or.inl (by decide))).trans (ehp497 _ _ (Or.inl (by decide)))).trans (bs_at hz489 (by omega)), ((ehp511 _ _ (Or.inl (by decide))).trans ((ehp497 _ _ (Or.inl (by decide))).trans (ehp478 _ _ (Or.inl (by decide))))).trans (bs_at hz473 (by omega)), by omega, by omega, by omega⟩
                                         refine ih295 (z520, (some (.int z475)), hp511, t293) ⟨Hhp511, Fhp511, h512, (by first | omega | assumption), (by first | exact FQ | exact fun q hq => absurd hq (by omega))⟩ ?_
                                         show (6 - z520.toInt).toNat < (6 - k291.toInt).toNat
                                         omega
                       · skip
                         refine Ev.step (j := 66) (s' := ([some (.ref 7), some (.ref a1), some (.ref 28), some (.int z23), some (.int z28), some (.int z40), some (.int k46), none], [.ref 28], (0, 0), hp47)) rfl rfl ?_
                         exact by
                          refine bs_getU (g := 14) (g1 := 167) rfl rfl Hhp47 (bs_R.uq Hhp47 (g := 14) rfl) (by decide) rfl rfl ?_
                          refine Ev.step (j := 71) (s' := ([some (.ref 7), some (.ref a1), some (.ref 28), some (.int z23), some (.int z28), some (.int z40), some (.int k46), none], [.int k46, .ref 33], (0, 0), hp47)) rfl rfl ?_
                          refine bs_ld (g := 167) 0 7 (-2147483648, 2147483647) rfl Hhp47 (bs_R.uq Hhp47 (g := 167) rfl) (by decide) rfl (by decide) (by decide) rfl (by decide) (by omega) (by omega) fun z521 hz521 lz521 gz521 => ?_
                          dsimp only at lz521 gz521
                          refine Ev.step (j := 73) (s' := ([some (.ref 7), some (.ref a1), some (.ref 28), some (.int z23), some (.int z28), some (.int z40), some (.int k46), none], [.int z23, .int z521], (0, 0), hp47)) rfl rfl ?_
                          refine bs_ne rfl (fun c522 => ?_) (fun c522 => ?_)
                          · skip
                            refine bs_iinc (1) rfl rfl rfl rfl (by omega) (by omega) fun z523 hz523 => ?_
                            refine (show Ev _ 112 ([some (.ref 7), some (.ref a1), some (.ref 28), some (.int z23), some (.int z28), some (.int z40), some (.int z523), none], [], (0, 0), hp47) _ from ?_)
                            refine Ev.step (j := 45) (s' := ([some (.ref 7), some (.ref a1), some (.ref 28), some (.int z23), some (.int z28), some (.int z40), some (.int z523), none], [], (0, 0), hp47)) rfl rfl ?_
                            exact by
                             refine ih49 (z523, hp47, t48) ⟨Hhp47, Fhp47, i50, (by first | omega | assumption)⟩ ?_
                             show (8 - z523.toInt).toNat < (8 - k46.toInt).toNat
                             omega
                          · skip
                            refine Ev.step (j := 78) (s' := ([some (.ref 7), some (.ref a1), some (.ref 28), some (.int z23), some (.int z28), some (.int z40), some (.int k46), none], [.int z40], (0, 0), hp47)) rfl rfl ?_
                            exact by
                             refine bs_lit (k := 1) rfl rfl fun z524 hz524 => ?_
                             refine Ev.step (j := 81) (s' := ([some (.ref 7), some (.ref a1), some (.ref 28), some (.int z23), some (.int z28), some (.int z40), some (.int k46), none], [.int k46, .int z524, .int z40], (0, 0), hp47)) rfl rfl ?_
                             refine bs_any rfl fun z525 => ?_
                             have rz525 := n_range z525
                             refine bs_any rfl fun z526 => ?_
                             have rz526 := n_range z526
                             refine bs_ifeq rfl (fun c527 => ?_) (fun c527 => ?_)
                             · skip
                               have c528 : z526.toInt = 0 := by omega
                               refine bs_iinc (1) rfl rfl rfl rfl (by omega) (by omega) fun z529 hz529 => ?_
                               exact by
                                refine (show Ev _ 112 ([some (.ref 7), some (.ref a1), some (.ref 28), some (.int z23), some (.int z28), some (.int z40), some (.int z529), none], [], (0, 0), hp47) _ from ?_)
                                refine Ev.step (j := 45) (s' := ([some (.ref 7), some (.ref a1), some (.ref 28), some (.int z23), some (.int z28), some (.int z40), some (.int z529), none], [], (0, 0), hp47)) rfl rfl ?_
                                refine ih49 (z529, hp47, t48) ⟨Hhp47, Fhp47, i50, (by first | omega | assumption)⟩ ?_
                                show (8 - z529.toInt).toNat < (8 - k46.toInt).toNat
                                omega
                             · skip
                               refine Ev.step (j := 87) (s' := ([some (.ref 7), some (.ref a1), some (.ref 28), some (.int z23), some (.int z28), some (.int z40), some (.int k46), none], [.ref 7], (0, 0), hp47)) rfl rfl ?_
                               exact by
                                refine Ev.step (j := 88) (s' := ([some (.ref 7), some (.ref a1), some (.ref 28), some (.int z23), some (.int z28), some (.int z40), some (.int k46), none], [.ref 7, .ref 7], (0, 0), hp47)) rfl rfl ?_
                                refine bs_getI 1 rfl rfl rfl Hhp47 (bs_R.uq Hhp47 (g := 1) rfl) (by decide) rfl fun z530 hz530 lz530 gz530 => ?_
                                refine bs_lit (k := 1) rfl rfl fun z531 hz531 => ?_
                                refine Ev.step (j := 94) (s' := ([some (.ref 7), some (.ref a1), some (.ref 28), some (.int z23), some (.int z28), some (.int z40), some (.int k46), none], [.int k46, .int z531, .int z530, .ref 7], (0, 0), hp47)) rfl rfl ?_
                                refine bs_any rfl fun z532 => ?_
                                have rz532 := n_range z532
                                refine bs_any rfl fun z533 => ?_
                                have rz533 := n_range z533
                                refine bs_putI (W := [(1, 2, 2)]) (g := 1) rfl rfl Hhp47 (bs_R.uq Hhp47 (g := 1) rfl) (by decide) rfl rfl rfl rfl (Or.inl rfl) (by omega) (by omega) fun hp534 Hhp534 fhp534 rhp534 ehp534 qhp534 nhp534 => ?_
                                have Fhp534 := sf_fr_tr Fhp47 (sf_fr_wider (W := [(1, 2, 3), (14, 7, 9), (100, 0, 5), (101, 0, 5), (163, 0, 11), (165, 0, 11), (166, 0, 11), (167, 0, 7), (168, 0, 7), (169, 0, 63)]) rfl fhp534)
                                have h535 : sf_rd hp534 28 7 = some z12.toInt := (ehp534 _ _ (Or.inl (by decide))).trans i50
                                have h536 : sf_rd hp534 a1 9 = some z52.toInt := (ehp534 _ _ (Or.inl (bs_nq (ra1.fr Fhp47) (bs_R.uq Hhp47 (g := 1) rfl) (by decide)))).trans hz52
                                have h537 : sf_rd hp534 7 3 = some z286.toInt := (ehp534 _ _ (Or.inr (by omega))).trans hz286
                                have h538 : sf_rd hp534 33 k46.toInt.toNat = some z521.toInt := (ehp534 _ _ (Or.inl (by decide))).trans hz521
                                refine Ev.step (j := 100) (s' := ([some (.ref 7), some (.ref a1), some (.ref 28), some (.int z23), some (.int z28), some (.int z40), some (.int k46), none], [.ref 7], (0, 0), hp534)) rfl rfl ?_
                                exact by
                                 refine Ev.step (j := 101) (s' := ([some (.ref 7), some (.ref a1), some (.ref 28), some (.int z23), some (.int z28), some (.int z40), some (.int k46), none], [.ref 7, .ref 7], (0, 0), hp534)) rfl rfl ?_
                                 refine bs_getI 1 rfl rfl rfl Hhp534 (bs_R.uq Hhp534 (g := 1) rfl) (by decide) rfl fun z539 hz539 lz539 gz539 => ?_
                                 have e540 : z539.toInt = z286.toInt := Option.some.inj (hz539.symm.trans h537)
                                 refine bs_lit (k := 2) rfl rfl fun z541 hz541 => ?_
                                 first | (refine bs_add rfl (by omega) (by omega) fun z542 hz542 => ?_) | (refine bs_any rfl fun z542 => ?_)
                                 have rz542 := n_range z542
                                 refine bs_putI (W := [(1, 3, 3)]) (g := 1) rfl rfl Hhp534 (bs_R.uq Hhp534 (g := 1) rfl) (by decide) rfl rfl rfl rfl (Or.inl rfl) (by omega) (by omega) fun hp543 Hhp543 fhp543 rhp543 ehp543 qhp543 nhp543 => ?_
                                 have Fhp543 := sf_fr_tr Fhp534 (sf_fr_wider (W := [(1, 2, 3), (14, 7, 9), (100, 0, 5), (101, 0, 5), (163, 0, 11), (165, 0, 11), (166, 0, 11), (167, 0, 7), (168, 0, 7), (169, 0, 63)]) rfl fhp543)
                                 have h544 : sf_rd hp543 28 7 = some z12.toInt := (ehp543 _ _ (Or.inl (by decide))).trans h535
                                 have h545 : sf_rd hp543 a1 9 = some z52.toInt := (ehp543 _ _ (Or.inl (bs_nq (ra1.fr Fhp534) (bs_R.uq Hhp534 (g := 1) rfl) (by decide)))).trans h536
                                 have h546 : sf_rd hp543 33 k46.toInt.toNat = some z521.toInt := (ehp543 _ _ (Or.inl (by decide))).trans h538
                                 have h547 : sf_rd hp543 7 2 = some z533.toInt := (ehp543 _ _ (Or.inr (by omega))).trans rhp534
                                 refine bs_iinc (1) rfl rfl rfl rfl (by omega) (by omega) fun z548 hz548 => ?_
                                 exact by
                                  refine (show Ev _ 112 ([some (.ref 7), some (.ref a1), some (.ref 28), some (.int z23), some (.int z28), some (.int z40), some (.int z548), none], [], (0, 0), hp543) _ from ?_)
                                  refine Ev.step (j := 45) (s' := ([some (.ref 7), some (.ref a1), some (.ref 28), some (.int z23), some (.int z28), some (.int z40), some (.int z548), none], [], (0, 0), hp543)) rfl rfl ?_
                                  refine ih49 (z548, hp543, t48) ⟨Hhp543, Fhp543, h544, (by first | omega | assumption)⟩ ?_
                                  show (8 - z548.toInt).toNat < (8 - k46.toInt).toNat
                                  omega
end
