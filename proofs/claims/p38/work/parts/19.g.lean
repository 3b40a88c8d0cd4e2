-- 63.b16.lean.txt
section
def kq_X11_which_z : sf_Q := ([(1, 11, 0)], [], some (0, 0, 0), [(1, 36008, 0, 0, 0, 0)], [(11, 0, 0), (11, 2, 5), (999, 0, 0)])
set_option maxRecDepth 100000 in
set_option maxHeartbeats 4000000 in
theorem ct_X11_which_z : sf_ct kq_X11_which_z Z_X11_which := by
  intro t hp as H hl hj hpre
  match as, hl with
  | [v0], _ =>
    obtain ⟨a0, rfl, ra0⟩ := bs_aR (hj 0 _ rfl)
    obtain rfl := ra0.eq H (p := 69) rfl
    clear hpre hj
    have F0 : sf_fr [(11, 0, 0), (11, 2, 5), (999, 0, 0)] t hp t hp := sf_fr_rf
    refine bs_fin (K := kq_X11_which_z) (L := (L_X11_which Z_X11_taken Z_X11_isIn Z_X11_octet Z_X11_cell Z_X11_lesser)) (nL := 7) (Nat.le_of_ble_eq_true rfl) ?_
    obtain ⟨Q, hQ⟩ : ∃ Q : ab_O → Prop, Q = (fun o => ∃ t', sf_h t' o.2 ∧ sf_fr (kq_X11_which_z).2.2.2.2 t hp t' o.2 ∧ sf_an t' o.2.1 (kq_X11_which_z).2.2.1 o.1 ∧ sf_S (sf_v1 o.1 [.ref 69] o.2) (kq_X11_which_z).2.2.2.1) := ⟨_, rfl⟩
    rw [← hQ]
    refine (show Ev (ab_T (L_X11_which Z_X11_taken Z_X11_isIn Z_X11_octet Z_X11_cell Z_X11_lesser)) 0 ([some (.ref 69), none, none, none, none, none, none], [], (0, 0), hp) Q from ?_)
    refine Ev.step (j := 1) (s' := ([some (.ref 69), none, none, none, none, none, none], [.ref 69], (0, 0), hp)) rfl rfl ?_
    refine bs_lit (k := 0) rfl rfl fun z1 hz1 => ?_
    exact by
     refine bs_putI (W := [(11, 0, 0)]) (g := 11) rfl rfl H (bs_R.uq H (g := 11) rfl) (by decide) rfl rfl rfl rfl (Or.inl rfl) (by omega) (by omega) fun hp2 Hhp2 fhp2 rhp2 ehp2 qhp2 nhp2 => ?_
     have Fhp2 := sf_fr_tr F0 (sf_fr_wider (W := [(11, 0, 0), (11, 2, 5), (999, 0, 0)]) rfl fhp2)
     refine Ev.step (j := 6) (s' := ([some (.ref 69), none, none, none, none, none, none], [.ref 69], (0, 0), hp2)) rfl rfl ?_
     refine bs_lit (k := 940) rfl rfl fun z3 hz3 => ?_
     refine bs_call (K := kq_X11_taken_39c368) [.ref 69, .int z3] [] rfl ct_X11_taken_39c368 Hhp2 rfl rfl rfl (bs_rcv (g := 11) Hhp2 (bs_R.uq Hhp2 (g := 11) rfl) (by decide) rfl) rfl ?_ (sf_S_cons (sf_s1 (x := z3.toInt) rfl (by omega) (by omega)) (sf_S_nil)) fun r4 hp5 thp5 Hhp5 fhp5 ahp5 php5 => ?_
     · intro q k h
       match q, h with
       | 0, h => cases h; exact bs_jR (bs_R.uq Hhp2 (g := 11) rfl)
       | 1, h => cases h; exact sf_j0
       | q + 2, h => cases h
     obtain rfl := ahp5.1 rfl
     have Fhp5 := sf_fr_tr Fhp2 (sf_fr_wider (W := [(11, 0, 0), (11, 2, 5), (999, 0, 0)]) rfl fhp5)
     have h6 : sf_rd hp5 69 0 = some z1.toInt := (fhp5.2.2.1 _ (bs_R.uq Hhp2 (g := 11) (p := 69) rfl).1 _ (by rw [(bs_R.uq Hhp2 (g := 11) (p := 69) rfl).2]; rfl)).trans rhp2
     obtain ⟨y7, ey7, uy7, vy7⟩ := (php5 _ (List.mem_of_getElem? (i := 0) rfl)).1 rfl
     replace ey7 : sf_rd hp5 69 2 = some y7 := ey7
     replace uy7 : (0 : Int) ≤ y7 := uy7
     replace vy7 : y7 ≤ (0 : Int) := vy7
     obtain ⟨y8, ey8, uy8, vy8⟩ := (php5 _ (List.mem_of_getElem? (i := 1) rfl)).1 rfl
     replace ey8 : sf_rd hp5 69 4 = some y8 := ey8
     replace uy8 : (0 : Int) ≤ y8 := uy8
     replace vy8 : y8 ≤ (0 : Int) := vy8
     obtain ⟨y9, ey9, uy9, vy9⟩ := (php5 _ (List.mem_of_getElem? (i := 2) rfl)).1 rfl
     replace ey9 : sf_rd hp5 69 5 = some y9 := ey9
     replace uy9 : (940 : Int) ≤ y9 := uy9
     replace vy9 : y9 ≤ (940 : Int) := vy9
     refine (show Ev _ 12 ([some (.ref 69), none, none, none, none, none, none], [], (0, 0), hp5) _ from ?_)
     exact by
      refine Ev.step (j := 13) (s' := ([some (.ref 69), none, none, none, none, none, none], [.ref 69], (0, 0), hp5)) rfl rfl ?_
      refine bs_getI 11 rfl rfl rfl Hhp5 (bs_R.uq Hhp5 (g := 11) rfl) (by decide) rfl fun z10 hz10 lz10 gz10 => ?_
      refine bs_lit (k := 3) rfl rfl fun z11 hz11 => ?_
      refine bs_lit (k := 31) rfl rfl fun z12 hz12 => ?_
      refine Ev.inlS (L := L_X11_isIn) (nL := 3) rfl rfl (Nat.le_of_ble_eq_true rfl) ?_
      generalize hQ13 : (fun (o : ab_O) => Ev _ _ _ _) = Q13
      refine (show Ev (ab_T L_X11_isIn) 0 ([some (.int z10), some (.int z11), some (.int z12)], [], (0, 0), hp5) Q13 from ?_)
      refine Ev.step (j := 1) (s' := ([some (.int z10), some (.int z11), some (.int z12)], [.int z10], (0, 0), hp5)) rfl rfl ?_
      refine Ev.step (j := 2) (s' := ([some (.int z10), some (.int z11), some (.int z12)], [.int z11, .int z10], (0, 0), hp5)) rfl rfl ?_
      exact by
       refine bs_lt rfl (fun c14 => ?_) (fun c14 => ?_)
       · skip
         refine bs_lit (k := 0) rfl rfl fun z15 hz15 => ?_
         refine bs_zret rfl rfl (by omega) (by omega) ?_
         rw [← hQ13]
         refine (show Ev _ 22 ([some (.ref 69), none, none, none, none, none, none], [.int z15], (0, 0), hp5) _ from ?_)
         refine bs_ifeq rfl (fun c16 => ?_) (fun c16 => ?_)
         · skip
           refine bs_lit (k := -1) rfl rfl fun z17 hz17 => ?_
           exact Ev.ret rfl rfl (by rw [hQ]; exact ⟨thp5, Hhp5, Fhp5, bs_an0, sf_S_cons (sf_s1 (x := y7) (show sf_v1 _ _ _ 36008 = _ from ey7) (by omega) (by omega)) (sf_S_nil)⟩)
         · exfalso; omega
       · skip
         refine Ev.step (j := 6) (s' := ([some (.int z10), some (.int z11), some (.int z12)], [.int z10], (0, 0), hp5)) rfl rfl ?_
         refine Ev.step (j := 7) (s' := ([some (.int z10), some (.int z11), some (.int z12)], [.int z12, .int z10], (0, 0), hp5)) rfl rfl ?_
         exact by
          refine bs_gt rfl (fun c18 => ?_) (fun c18 => ?_)
          · skip
            refine bs_lit (k := 0) rfl rfl fun z19 hz19 => ?_
            refine bs_zret rfl rfl (by omega) (by omega) ?_
            rw [← hQ13]
            refine (show Ev _ 22 ([some (.ref 69), none, none, none, none, none, none], [.int z19], (0, 0), hp5) _ from ?_)
            refine bs_ifeq rfl (fun c20 => ?_) (fun c20 => ?_)
            · skip
              refine bs_lit (k := -1) rfl rfl fun z21 hz21 => ?_
              exact Ev.ret rfl rfl (by rw [hQ]; exact ⟨thp5, Hhp5, Fhp5, bs_an0, sf_S_cons (sf_s1 (x := y7) (show sf_v1 _ _ _ 36008 = _ from ey7) (by omega) (by omega)) (sf_S_nil)⟩)
            · exfalso; omega
          · skip
            refine bs_lit (k := 1) rfl rfl fun z22 hz22 => ?_
            refine Ev.step (j := 15) (s' := ([some (.int z10), some (.int z11), some (.int z12)], [.int z22], (0, 0), hp5)) rfl rfl ?_
            exact by
             refine bs_zret rfl rfl (by omega) (by omega) ?_
             rw [← hQ13]
             refine (show Ev _ 22 ([some (.ref 69), none, none, none, none, none, none], [.int z22], (0, 0), hp5) _ from ?_)
             refine bs_ifeq rfl (fun c23 => ?_) (fun c23 => ?_)
             · exfalso; omega
             · skip
               refine Ev.step (j := 26) (s' := ([some (.ref 69), none, none, none, none, none, none], [.ref 69], (0, 0), hp5)) rfl rfl ?_
               refine bs_lit (k := 0) rfl rfl fun z24 hz24 => ?_
               refine Ev.inl (L := L_X11_octet) (nL := 2) rfl (bs_rcv (g := 11) Hhp5 (bs_R.uq Hhp5 (g := 11) rfl) (by decide) rfl) rfl (Nat.le_of_ble_eq_true rfl) ?_
               generalize hQ25 : (fun (o : ab_O) => Ev _ _ _ _) = Q25
               refine (show Ev (ab_T L_X11_octet) 0 ([some (.ref 69), some (.int z24)], [], (0, 0), hp5) Q25 from ?_)
               refine Ev.step (j := 1) (s' := ([some (.ref 69), some (.int z24)], [.ref 69], (0, 0), hp5)) rfl rfl ?_
               exact by
                refine bs_getU (g := 11) (g1 := 131) rfl rfl Hhp5 (bs_R.uq Hhp5 (g := 11) rfl) (by decide) rfl rfl ?_
                refine Ev.step (j := 5) (s' := ([some (.ref 69), some (.int z24)], [.int z24, .ref 70], (0, 0), hp5)) rfl rfl ?_
                refine bs_ld (g := 131) 0 939 (-2147483648, 2147483647) rfl Hhp5 (bs_R.uq Hhp5 (g := 131) rfl) (by decide) rfl (by decide) (by decide) rfl (by decide) (by omega) (by omega) fun z26 hz26 lz26 gz26 => ?_
                dsimp only at lz26 gz26
                replace hz26 := bs_at hz26 (show z24.toInt.toNat = 0 by omega)
                refine bs_lit (k := 255) rfl rfl fun z27 hz27 => ?_
                refine bs_andF rfl (by omega) fun z28 qz28 hz28 gz28 => ?_
                refine Ev.ret rfl rfl ?_
                rw [← hQ25]
                refine (show Ev _ 30 ([some (.ref 69), none, none, none, none, none, none], [.int z28], (0, 0), hp5) _ from ?_)
                exact by
                 refine bs_lit (k := 1) rfl rfl fun z29 hz29 => ?_
                 refine bs_le rfl (fun c30 => ?_) (fun c30 => ?_)
                 · skip
                   refine bs_lit (k := 0) rfl rfl fun z31 hz31 => ?_
                   refine Ev.step (j := 38) (s' := ([some (.ref 69), some (.int z31), none, none, none, none, none], [], (0, 0), hp5)) rfl rfl ?_
                   refine bs_lit (k := 0) rfl rfl fun z32 hz32 => ?_
                   refine Ev.step (j := 40) (s' := ([some (.ref 69), some (.int z31), some (.int z32), none, none, none, none], [], (0, 0), hp5)) rfl rfl ?_
                   refine bs_loop (ι := Int32 × Int32 × (Option Value) × (Option Value) × (Option Value) × (Option Value) × ab_H × (Nat → Nat)) (fun ⟨k33, k34, o37, o38, o39, o40, hp35, t36⟩ => ([some (.ref 69), some (.int k33), some (.int k34), o37, o38, o39, o40], [], (0, 0), hp35)) (fun ⟨k33, k34, o37, o38, o39, o40, hp35, t36⟩ => (sf_h t36 hp35) ∧ (sf_fr [(11, 0, 0), (11, 2, 5), (999, 0, 0)] t hp t36 hp35) ∧ (sf_rd hp35 69 2 = some y7) ∧ (sf_rd hp35 70 0 = some z26.toInt) ∧ (sf_rd hp35 69 3 = some z10.toInt) ∧ (0 ≤ k34.toInt ∧ k34.toInt ≤ 6)) (fun ⟨k33, k34, o37, o38, o39, o40, hp35, t36⟩ => (6 - k34.toInt).toNat) ?_ (z31, z32, none, none, none, none, hp5, thp5) ⟨Hhp5, Fhp5, ey7, hz26, hz10, (by first | omega | assumption)⟩
                   rintro ⟨k33, k34, o37, o38, o39, o40, hp35, t36⟩ ⟨Hhp35, Fhp35, i42, i43, i44, i45⟩ ih41
                   refine (show Ev _ 40 ([some (.ref 69), some (.int k33), some (.int k34), o37, o38, o39, o40], [], (0, 0), hp35) _ from ?_)
                   exact by
                    refine Ev.step (j := 41) (s' := ([some (.ref 69), some (.int k33), some (.int k34), o37, o38, o39, o40], [.int k34], (0, 0), hp35)) rfl rfl ?_
                    refine Ev.step (j := 42) (s' := ([some (.ref 69), some (.int k33), some (.int k34), o37, o38, o39, o40], [.ref 69, .int k34], (0, 0), hp35)) rfl rfl ?_
                    refine bs_getU (g := 11) (g1 := 132) rfl rfl Hhp35 (bs_R.uq Hhp35 (g := 11) rfl) (by decide) rfl rfl ?_
                    refine bs_lit (k := 0) rfl rfl fun z46 hz46 => ?_
                    refine bs_ld (g := 132) 0 0 (0, 6) rfl Hhp35 (bs_R.uq Hhp35 (g := 132) rfl) (by decide) rfl (by decide) (by decide) rfl (by decide) (by omega) (by omega) fun z47 hz47 lz47 gz47 => ?_
                    dsimp only at lz47 gz47
                    replace hz47 := bs_at hz47 (show z46.toInt.toNat = 0 by omega)
                    refine bs_ge rfl (fun c48 => ?_) (fun c48 => ?_)
                    · skip
                      refine Ev.step (j := 171) (s' := ([some (.ref 69), some (.int k33), some (.int k34), o37, o38, o39, o40], [.int k33], (0, 0), hp35)) rfl rfl ?_
                      exact Ev.ret rfl rfl (by rw [hQ]; exact ⟨t36, Hhp35, Fhp35, bs_an0, sf_S_cons (sf_s1 (x := y7) (show sf_v1 _ _ _ 36008 = _ from i42) (by omega) (by omega)) (sf_S_nil)⟩)
                    · skip
                      refine Ev.step (j := 51) (s' := ([some (.ref 69), some (.int k33), some (.int k34), o37, o38, o39, o40], [.int k34], (0, 0), hp35)) rfl rfl ?_
                      exact by
                       refine Ev.step (j := 52) (s' := ([some (.ref 69), some (.int k33), some (.int k34), o37, o38, o39, o40], [.ref 69, .int k34], (0, 0), hp35)) rfl rfl ?_
                       refine bs_lit (k := 0) rfl rfl fun z49 hz49 => ?_
                       refine Ev.inl (L := L_X11_octet) (nL := 2) rfl (bs_rcv (g := 11) Hhp35 (bs_R.uq Hhp35 (g := 11) rfl) (by decide) rfl) rfl (Nat.le_of_ble_eq_true rfl) ?_
                       generalize hQ50 : (fun (o : ab_O) => Ev _ _ _ _) = Q50
                       refine (show Ev (ab_T L_X11_octet) 0 ([some (.ref 69), some (.int z49)], [], (0, 0), hp35) Q50 from ?_)
                       refine Ev.step (j := 1) (s' := ([some (.ref 69), some (.int z49)], [.ref 69], (0, 0), hp35)) rfl rfl ?_
                       refine bs_getU (g := 11) (g1 := 131) rfl rfl Hhp35 (bs_R.uq Hhp35 (g := 11) rfl) (by decide) rfl rfl ?_
                       refine Ev.step (j := 5) (s' := ([some (.ref 69), some (.int z49)], [.int z49, .ref 70], (0, 0), hp35)) rfl rfl ?_
                       refine bs_ld (g := 131) 0 939 (-2147483648, 2147483647) rfl Hhp35 (bs_R.uq Hhp35 (g := 131) rfl) (by decide) rfl (by decide) (by decide) rfl (by decide) (by omega) (by omega) fun z51 hz51 lz51 gz51 => ?_
                       dsimp only at lz51 gz51
                       replace hz51 := bs_at hz51 (show z49.toInt.toNat = 0 by omega)
                       have e52 : z51.toInt = z26.toInt := Option.some.inj (hz51.symm.trans i43)
                       refine bs_lit (k := 255) rfl rfl fun z53 hz53 => ?_
                       exact by
                        refine bs_andF rfl (by omega) fun z54 qz54 hz54 gz54 => ?_
                        have e55 : z54.toInt = z28.toInt := and_same qz54 qz28 (by omega) (by omega)
                        refine Ev.ret rfl rfl ?_
                        rw [← hQ50]
                        refine (show Ev _ 56 ([some (.ref 69), some (.int k33), some (.int k34), o37, o38, o39, o40], [.int z54, .int k34], (0, 0), hp35) _ from ?_)
                        refine Ev.inlS (L := L_X11_cell) (nL := 2) rfl rfl (Nat.le_of_ble_eq_true rfl) ?_
                        generalize hQ56 : (fun (o : ab_O) => Ev _ _ _ _) = Q56
                        refine (show Ev (ab_T L_X11_cell) 0 ([some (.int k34), some (.int z54)], [], (0, 0), hp35) Q56 from ?_)
                        refine bs_lit (k := 2) rfl rfl fun z57 hz57 => ?_
                        refine Ev.step (j := 2) (s' := ([some (.int k34), some (.int z54)], [.int k34, .int z57], (0, 0), hp35)) rfl rfl ?_
                        exact by
                         refine bs_mul (2) rfl (Or.inl hz57) (by rw [hz57]; omega) (by rw [hz57]; omega) fun z58 hz58 => ?_
                         rw [hz57] at hz58
                         refine Ev.step (j := 4) (s' := ([some (.int k34), some (.int z54)], [.int z54, .int z58], (0, 0), hp35)) rfl rfl ?_
                         first | (refine bs_add rfl (by omega) (by omega) fun z59 hz59 => ?_) | (refine bs_any rfl fun z59 => ?_)
                         have rz59 := n_range z59
                         refine Ev.ret rfl rfl ?_
                         rw [← hQ56]
                         refine (show Ev _ 59 ([some (.ref 69), some (.int k33), some (.int k34), o37, o38, o39, o40], [.int z59], (0, 0), hp35) _ from ?_)
                         refine Ev.step (j := 60) (s' := ([some (.ref 69), some (.int k33), some (.int k34), some (.int z59), o38, o39, o40], [], (0, 0), hp35)) rfl rfl ?_
                         refine bs_lit (k := 1) rfl rfl fun z60 hz60 => ?_
                         exact by
                          refine Ev.step (j := 63) (s' := ([some (.ref 69), some (.int k33), some (.int k34), some (.int z59), some (.int z60), o39, o40], [], (0, 0), hp35)) rfl rfl ?_
                          refine bs_lit (k := 2) rfl rfl fun z61 hz61 => ?_
                          refine Ev.step (j := 66) (s' := ([some (.ref 69), some (.int k33), some (.int k34), some (.int z59), some (.int z60), some (.int z61), o40], [], (0, 0), hp35)) rfl rfl ?_
                          refine bs_loop (ι := Int32 × Int32 × (Option Value) × ab_H × (Nat → Nat)) (fun ⟨k62, k63, o66, hp64, t65⟩ => ([some (.ref 69), some (.int k33), some (.int k34), some (.int z59), some (.int k62), some (.int k63), o66], [], (0, 0), hp64)) (fun ⟨k62, k63, o66, hp64, t65⟩ => (sf_h t65 hp64) ∧ (sf_fr [(11, 0, 0), (11, 2, 5), (999, 0, 0)] t hp t65 hp64) ∧ (sf_rd hp64 69 2 = some y7) ∧ (sf_rd hp64 70 0 = some z26.toInt) ∧ (sf_rd hp64 69 3 = some z10.toInt) ∧ (2 ≤ k63.toInt ∧ k63.toInt ≤ 31)) (fun ⟨k62, k63, o66, hp64, t65⟩ => (31 - k63.toInt).toNat) ?_ (z60, z61, o40, hp35, t36) ⟨Hhp35, Fhp35, i42, i43, i44, (by first | omega | assumption)⟩
                          rintro ⟨k62, k63, o66, hp64, t65⟩ ⟨Hhp64, Fhp64, i68, i69, i70, i71⟩ ih67
                          refine (show Ev _ 66 ([some (.ref 69), some (.int k33), some (.int k34), some (.int z59), some (.int k62), some (.int k63), o66], [], (0, 0), hp64) _ from ?_)
                          refine Ev.step (j := 68) (s' := ([some (.ref 69), some (.int k33), some (.int k34), some (.int z59), some (.int k62), some (.int k63), o66], [.int k63], (0, 0), hp64)) rfl rfl ?_
                          refine Ev.step (j := 69) (s' := ([some (.ref 69), some (.int k33), some (.int k34), some (.int z59), some (.int k62), some (.int k63), o66], [.ref 69, .int k63], (0, 0), hp64)) rfl rfl ?_
                          exact by
                           refine bs_getI 11 rfl rfl rfl Hhp64 (bs_R.uq Hhp64 (g := 11) rfl) (by decide) rfl fun z72 hz72 lz72 gz72 => ?_
                           have e73 : z72.toInt = z10.toInt := Option.some.inj (hz72.symm.trans i70)
                           refine bs_ge rfl (fun c74 => ?_) (fun c74 => ?_)
                           · skip
                             refine Ev.step (j := 150) (s' := ([some (.ref 69), some (.int k33), some (.int k34), some (.int z59), some (.int k62), some (.int k63), o66], [.int k33], (0, 0), hp64)) rfl rfl ?_
                             refine Ev.step (j := 152) (s' := ([some (.ref 69), some (.int k33), some (.int k34), some (.int z59), some (.int k62), some (.int k63), o66], [.int k62, .int k33], (0, 0), hp64)) rfl rfl ?_
                             refine bs_ifeq rfl (fun c75 => ?_) (fun c75 => ?_)
                             · skip
                               have c76 : k62.toInt = 0 := by omega
                               refine bs_lit (k := 0) rfl rfl fun z77 hz77 => ?_
                               exact by
                                refine bs_any rfl fun z78 => ?_
                                have rz78 := n_range z78
                                refine Ev.step (j := 164) (s' := ([some (.ref 69), some (.int z78), some (.int k34), some (.int z59), some (.int k62), some (.int k63), o66], [], (0, 0), hp64)) rfl rfl ?_
                                refine bs_iinc (1) rfl rfl rfl rfl (by omega) (by omega) fun z79 hz79 => ?_
                                refine (show Ev _ 167 ([some (.ref 69), some (.int z78), some (.int z79), some (.int z59), some (.int k62), some (.int k63), o66], [], (0, 0), hp64) _ from ?_)
                                refine Ev.step (j := 40) (s' := ([some (.ref 69), some (.int z78), some (.int z79), some (.int z59), some (.int k62), some (.int k63), o66], [], (0, 0), hp64)) rfl rfl ?_
                                refine ih41 (z78, z79, (some (.int z59)), (some (.int k62)), (some (.int k63)), o66, hp64, t65) ⟨Hhp64, Fhp64, i68, i69, i70, (by first | omega | assumption)⟩ ?_
                                show (6 - z79.toInt).toNat < (6 - k34.toInt).toNat
                                omega
                             · skip
                               refine bs_lit (k := 1) rfl rfl fun z80 hz80 => ?_
                               exact by
                                refine Ev.step (j := 157) (s' := ([some (.ref 69), some (.int k33), some (.int k34), some (.int z59), some (.int k62), some (.int k63), o66], [.int k34, .int z80, .int k33], (0, 0), hp64)) rfl rfl ?_
                                refine bs_any rfl fun z81 => ?_
                                have rz81 := n_range z81
                                refine Ev.step (j := 162) (s' := ([some (.ref 69), some (.int k33), some (.int k34), some (.int z59), some (.int k62), some (.int k63), o66], [.int z81, .int k33], (0, 0), hp64)) rfl rfl ?_
                                refine bs_any rfl fun z82 => ?_
                                have rz82 := n_range z82
                                refine Ev.step (j := 164) (s' := ([some (.ref 69), some (.int z82), some (.int k34), some (.int z59), some (.int k62), some (.int k63), o66], [], (0, 0), hp64)) rfl rfl ?_
                                refine bs_iinc (1) rfl rfl rfl rfl (by omega) (by omega) fun z83 hz83 => ?_
                                exact by
                                 refine (show Ev _ 167 ([some (.ref 69), some (.int z82), some (.int z83), some (.int z59), some (.int k62), some (.int k63), o66], [], (0, 0), hp64) _ from ?_)
                                 refine Ev.step (j := 40) (s' := ([some (.ref 69), some (.int z82), some (.int z83), some (.int z59), some (.int k62), some (.int k63), o66], [], (0, 0), hp64)) rfl rfl ?_
                                 refine ih41 (z82, z83, (some (.int z59)), (some (.int k62)), (some (.int k63)), o66, hp64, t65) ⟨Hhp64, Fhp64, i68, i69, i70, (by first | omega | assumption)⟩ ?_
                                 show (6 - z83.toInt).toNat < (6 - k34.toInt).toNat
                                 omega
                           · skip
                             refine bs_lit (k := 999) rfl rfl fun z84 hz84 => ?_
                             exact by
                              refine Ev.step (j := 79) (s' := ([some (.ref 69), some (.int k33), some (.int k34), some (.int z59), some (.int k62), some (.int k63), o66], [.ref 69, .int z84], (0, 0), hp64)) rfl rfl ?_
                              refine Ev.step (j := 81) (s' := ([some (.ref 69), some (.int k33), some (.int k34), some (.int z59), some (.int k62), some (.int k63), o66], [.int k63, .ref 69, .int z84], (0, 0), hp64)) rfl rfl ?_
                              refine bs_lit (k := 1) rfl rfl fun z85 hz85 => ?_
                              first | (refine bs_sub rfl (by omega) (by omega) fun z86 hz86 => ?_) | (refine bs_any rfl fun z86 => ?_)
                              have rz86 := n_range z86
                              refine Ev.inl (L := L_X11_octet) (nL := 2) rfl (bs_rcv (g := 11) Hhp64 (bs_R.uq Hhp64 (g := 11) rfl) (by decide) rfl) rfl (Nat.le_of_ble_eq_true rfl) ?_
                              generalize hQ87 : (fun (o : ab_O) => Ev _ _ _ _) = Q87
                              refine (show Ev (ab_T L_X11_octet) 0 ([some (.ref 69), some (.int z86)], [], (0, 0), hp64) Q87 from ?_)
                              refine Ev.step (j := 1) (s' := ([some (.ref 69), some (.int z86)], [.ref 69], (0, 0), hp64)) rfl rfl ?_
                              exact by
                               refine bs_getU (g := 11) (g1 := 131) rfl rfl Hhp64 (bs_R.uq Hhp64 (g := 11) rfl) (by decide) rfl rfl ?_
                               refine Ev.step (j := 5) (s' := ([some (.ref 69), some (.int z86)], [.int z86, .ref 70], (0, 0), hp64)) rfl rfl ?_
                               refine bs_ld (g := 131) 0 939 (-2147483648, 2147483647) rfl Hhp64 (bs_R.uq Hhp64 (g := 131) rfl) (by decide) rfl (by decide) (by decide) rfl (by decide) (by omega) (by omega) fun z88 hz88 lz88 gz88 => ?_
                               dsimp only at lz88 gz88
                               refine bs_lit (k := 255) rfl rfl fun z89 hz89 => ?_
                               refine bs_andF rfl (by omega) fun z90 qz90 hz90 gz90 => ?_
                               refine Ev.ret rfl rfl ?_
                               rw [← hQ87]
                               refine (show Ev _ 86 ([some (.ref 69), some (.int k33), some (.int k34), some (.int z59), some (.int k62), some (.int k63), o66], [.int z90, .int z84], (0, 0), hp64) _ from ?_)
                               refine Ev.step (j := 87) (s' := ([some (.ref 69), some (.int k33), some (.int k34), some (.int z59), some (.int k62), some (.int k63), o66], [.ref 69, .int z90, .int z84], (0, 0), hp64)) rfl rfl ?_
                               exact by
                                refine bs_getU (g := 11) (g1 := 132) rfl rfl Hhp64 (bs_R.uq Hhp64 (g := 11) rfl) (by decide) rfl rfl ?_
                                refine bs_lit (k := 40) rfl rfl fun z91 hz91 => ?_
                                refine Ev.step (j := 93) (s' := ([some (.ref 69), some (.int k33), some (.int k34), some (.int z59), some (.int k62), some (.int k63), o66], [.int z59, .int z91, .ref 71, .int z90, .int z84], (0, 0), hp64)) rfl rfl ?_
                                first | (refine bs_add rfl (by omega) (by omega) fun z92 hz92 => ?_) | (refine bs_any rfl fun z92 => ?_)
                                have rz92 := n_range z92
                                refine bs_ld (g := 132) 40 51 (0, 250) rfl Hhp64 (bs_R.uq Hhp64 (g := 132) rfl) (by decide) rfl (by decide) (by decide) rfl (by decide) (by omega) (by omega) fun z93 hz93 lz93 gz93 => ?_
                                dsimp only at lz93 gz93
                                first | (refine bs_add rfl (by omega) (by omega) fun z94 hz94 => ?_) | (refine bs_any rfl fun z94 => ?_)
                                have rz94 := n_range z94
                                refine bs_pure [.int z84, .int z94] [] rfl rfl rfl rfl px_lesser fun z95 hz95 => ?_
                                exact by
                                 refine (show Ev _ 99 ([some (.ref 69), some (.int k33), some (.int k34), some (.int z59), some (.int k62), some (.int k63), o66], [.int z95], (0, 0), hp64) _ from ?_)
                                 refine Ev.step (j := 100) (s' := ([some (.ref 69), some (.int k33), some (.int k34), some (.int z59), some (.int k62), some (.int k63), o66], [.ref 69, .int z95], (0, 0), hp64)) rfl rfl ?_
                                 refine bs_getU (g := 11) (g1 := 132) rfl rfl Hhp64 (bs_R.uq Hhp64 (g := 11) rfl) (by decide) rfl rfl ?_
                                 refine bs_lit (k := 28) rfl rfl fun z96 hz96 => ?_
                                 refine Ev.step (j := 106) (s' := ([some (.ref 69), some (.int k33), some (.int k34), some (.int z59), some (.int k62), some (.int k63), o66], [.int z59, .int z96, .ref 71, .int z95], (0, 0), hp64)) rfl rfl ?_
                                 first | (refine bs_add rfl (by omega) (by omega) fun z97 hz97 => ?_) | (refine bs_any rfl fun z97 => ?_)
                                 have rz97 := n_range z97
                                 refine bs_ld (g := 132) 28 39 (0, 250) rfl Hhp64 (bs_R.uq Hhp64 (g := 132) rfl) (by decide) rfl (by decide) (by decide) rfl (by decide) (by omega) (by omega) fun z98 hz98 lz98 gz98 => ?_
                                 dsimp only at lz98 gz98
                                 first | (refine bs_sub rfl (by omega) (by omega) fun z99 hz99 => ?_) | (refine bs_any rfl fun z99 => ?_)
                                 have rz99 := n_range z99
                                 refine Ev.step (j := 111) (s' := ([some (.ref 69), some (.int k33), some (.int k34), some (.int z59), some (.int k62), some (.int k63), some (.int z99)], [], (0, 0), hp64)) rfl rfl ?_
                                 exact by
                                  refine Ev.step (j := 113) (s' := ([some (.ref 69), some (.int k33), some (.int k34), some (.int z59), some (.int k62), some (.int k63), some (.int z99)], [.int k62], (0, 0), hp64)) rfl rfl ?_
                                  refine bs_ifeq rfl (fun c100 => ?_) (fun c100 => ?_)
                                  · skip
                                    have c101 : k62.toInt = 0 := by omega
                                    refine bs_lit (k := 0) rfl rfl fun z102 hz102 => ?_
                                    refine Ev.step (j := 143) (s' := ([some (.ref 69), some (.int k33), some (.int k34), some (.int z59), some (.int z102), some (.int k63), some (.int z99)], [], (0, 0), hp64)) rfl rfl ?_
                                    refine bs_iinc (1) rfl rfl rfl rfl (by omega) (by omega) fun z103 hz103 => ?_
                                    refine (show Ev _ 146 ([some (.ref 69), some (.int k33), some (.int k34), some (.int z59), some (.int z102), some (.int z103), some (.int z99)], [], (0, 0), hp64) _ from ?_)
                                    refine Ev.step (j := 66) (s' := ([some (.ref 69), some (.int k33), some (.int k34), some (.int z59), some (.int z102), some (.int z103), some (.int z99)], [], (0, 0), hp64)) rfl rfl ?_
                                    exact by
                                     refine ih67 (z102, z103, (some (.int z99)), hp64, t65) ⟨Hhp64, Fhp64, i68, i69, i70, (by first | omega | assumption)⟩ ?_
                                     show (31 - z103.toInt).toNat < (31 - k63.toInt).toNat
                                     omega
                                  · skip
                                    refine Ev.step (j := 117) (s' := ([some (.ref 69), some (.int k33), some (.int k34), some (.int z59), some (.int k62), some (.int k63), some (.int z99)], [.ref 69], (0, 0), hp64)) rfl rfl ?_
                                    exact by
                                     refine Ev.step (j := 119) (s' := ([some (.ref 69), some (.int k33), some (.int k34), some (.int z59), some (.int k62), some (.int k63), some (.int z99)], [.int k63, .ref 69], (0, 0), hp64)) rfl rfl ?_
                                     refine Ev.inl (L := L_X11_octet) (nL := 2) rfl (bs_rcv (g := 11) Hhp64 (bs_R.uq Hhp64 (g := 11) rfl) (by decide) rfl) rfl (Nat.le_of_ble_eq_true rfl) ?_
                                     generalize hQ104 : (fun (o : ab_O) => Ev _ _ _ _) = Q104
                                     refine (show Ev (ab_T L_X11_octet) 0 ([some (.ref 69), some (.int k63)], [], (0, 0), hp64) Q104 from ?_)
                                     refine Ev.step (j := 1) (s' := ([some (.ref 69), some (.int k63)], [.ref 69], (0, 0), hp64)) rfl rfl ?_
                                     refine bs_getU (g := 11) (g1 := 131) rfl rfl Hhp64 (bs_R.uq Hhp64 (g := 11) rfl) (by decide) rfl rfl ?_
                                     refine Ev.step (j := 5) (s' := ([some (.ref 69), some (.int k63)], [.int k63, .ref 70], (0, 0), hp64)) rfl rfl ?_
                                     refine bs_ld (g := 131) 0 939 (-2147483648, 2147483647) rfl Hhp64 (bs_R.uq Hhp64 (g := 131) rfl) (by decide) rfl (by decide) (by decide) rfl (by decide) (by omega) (by omega) fun z105 hz105 lz105 gz105 => ?_
                                     dsimp only at lz105 gz105
                                     refine bs_lit (k := 255) rfl rfl fun z106 hz106 => ?_
                                     exact by
                                      refine bs_andF rfl (by omega) fun z107 qz107 hz107 gz107 => ?_
                                      refine Ev.ret rfl rfl ?_
                                      rw [← hQ104]
                                      refine (show Ev _ 122 ([some (.ref 69), some (.int k33), some (.int k34), some (.int z59), some (.int k62), some (.int k63), some (.int z99)], [.int z107], (0, 0), hp64) _ from ?_)
                                      refine Ev.step (j := 124) (s' := ([some (.ref 69), some (.int k33), some (.int k34), some (.int z59), some (.int k62), some (.int k63), some (.int z99)], [.int z99, .int z107], (0, 0), hp64)) rfl rfl ?_
                                      refine bs_ifge rfl (fun c108 => ?_) (fun c108 => ?_)
                                      · skip
                                        refine Ev.step (j := 133) (s' := ([some (.ref 69), some (.int k33), some (.int k34), some (.int z59), some (.int k62), some (.int k63), some (.int z99)], [.int z99, .int z107], (0, 0), hp64)) rfl rfl ?_
                                        refine bs_ne rfl (fun c109 => ?_) (fun c109 => ?_)
                                        · skip
                                          refine bs_lit (k := 0) rfl rfl fun z110 hz110 => ?_
                                          exact by
                                           refine Ev.step (j := 143) (s' := ([some (.ref 69), some (.int k33), some (.int k34), some (.int z59), some (.int z110), some (.int k63), some (.int z99)], [], (0, 0), hp64)) rfl rfl ?_
                                           refine bs_iinc (1) rfl rfl rfl rfl (by omega) (by omega) fun z111 hz111 => ?_
                                           refine (show Ev _ 146 ([some (.ref 69), some (.int k33), some (.int k34), some (.int z59), some (.int z110), some (.int z111), some (.int z99)], [], (0, 0), hp64) _ from ?_)
                                           refine Ev.step (j := 66) (s' := ([some (.ref 69), some (.int k33), some (.int k34), some (.int z59), some (.int z110), some (.int z111), some (.int z99)], [], (0, 0), hp64)) rfl rfl ?_
                                           refine ih67 (z110, z111, (some (.int z99)), hp64, t65) ⟨Hhp64, Fhp64, i68, i69, i70, (by first | omega | assumption)⟩ ?_
                                           show (31 - z111.toInt).toNat < (31 - k63.toInt).toNat
                                           omega
                                        · skip
                                          refine bs_lit (k := 1) rfl rfl fun z112 hz112 => ?_
                                          exact by
                                           refine Ev.step (j := 141) (s' := ([some (.ref 69), some (.int k33), some (.int k34), some (.int z59), some (.int k62), some (.int k63), some (.int z99)], [.int z112], (0, 0), hp64)) rfl rfl ?_
                                           refine Ev.step (j := 143) (s' := ([some (.ref 69), some (.int k33), some (.int k34), some (.int z59), some (.int z112), some (.int k63), some (.int z99)], [], (0, 0), hp64)) rfl rfl ?_
                                           refine bs_iinc (1) rfl rfl rfl rfl (by omega) (by omega) fun z113 hz113 => ?_
                                           refine (show Ev _ 146 ([some (.ref 69), some (.int k33), some (.int k34), some (.int z59), some (.int z112), some (.int z113), some (.int z99)], [], (0, 0), hp64) _ from ?_)
                                           refine Ev.step (j := 66) (s' := ([some (.ref 69), some (.int k33), some (.int k34), some (.int z59), some (.int z112), some (.int z113), some (.int z99)], [], (0, 0), hp64)) rfl rfl ?_
                                           refine ih67 (z112, z113, (some (.int z99)), hp64, t65) ⟨Hhp64, Fhp64, i68, i69, i70, (by first | omega | assumption)⟩ ?_
                                           show (31 - z113.toInt).toNat < (31 - k63.toInt).toNat
                                           omega
                                      · skip
                                        refine bs_lit (k := 0) rfl rfl fun z114 hz114 => ?_
                                        exact by
                                         refine Ev.step (j := 133) (s' := ([some (.ref 69), some (.int k33), some (.int k34), some (.int z59), some (.int k62), some (.int k63), some (.int z99)], [.int z114, .int z107], (0, 0), hp64)) rfl rfl ?_
                                         refine bs_ne rfl (fun c115 => ?_) (fun c115 => ?_)
                                         · skip
                                           refine bs_lit (k := 0) rfl rfl fun z116 hz116 => ?_
                                           refine Ev.step (j := 143) (s' := ([some (.ref 69), some (.int k33), some (.int k34), some (.int z59), some (.int z116), some (.int k63), some (.int z99)], [], (0, 0), hp64)) rfl rfl ?_
                                           refine bs_iinc (1) rfl rfl rfl rfl (by omega) (by omega) fun z117 hz117 => ?_
                                           refine (show Ev _ 146 ([some (.ref 69), some (.int k33), some (.int k34), some (.int z59), some (.int z116), some (.int z117), some (.int z99)], [], (0, 0), hp64) _ from ?_)
                                           refine Ev.step (j := 66) (s' := ([some (.ref 69), some (.int k33), some (.int k34), some (.int z59), some (.int z116), some (.int z117), some (.int z99)], [], (0, 0), hp64)) rfl rfl ?_
                                           refine ih67 (z116, z117, (some (.int z99)), hp64, t65) ⟨Hhp64, Fhp64, i68, i69, i70, (by first | omega | assumption)⟩ ?_
                                           show (31 - z117.toInt).toNat < (31 - k63.toInt).toNat
                                           omega
                                         · skip
                                           have c118 : z107.toInt = 0 := by omega
                                           refine bs_lit (k := 1) rfl rfl fun z119 hz119 => ?_
                                           exact by
                                            refine Ev.step (j := 141) (s' := ([some (.ref 69), some (.int k33), some (.int k34), some (.int z59), some (.int k62), some (.int k63), some (.int z99)], [.int z119], (0, 0), hp64)) rfl rfl ?_
                                            refine Ev.step (j := 143) (s' := ([some (.ref 69), some (.int k33), some (.int k34), some (.int z59), some (.int z119), some (.int k63), some (.int z99)], [], (0, 0), hp64)) rfl rfl ?_
                                            refine bs_iinc (1) rfl rfl rfl rfl (by omega) (by omega) fun z120 hz120 => ?_
                                            refine (show Ev _ 146 ([some (.ref 69), some (.int k33), some (.int k34), some (.int z59), some (.int z119), some (.int z120), some (.int z99)], [], (0, 0), hp64) _ from ?_)
                                            refine Ev.step (j := 66) (s' := ([some (.ref 69), some (.int k33), some (.int k34), some (.int z59), some (.int z119), some (.int z120), some (.int z99)], [], (0, 0), hp64)) rfl rfl ?_
                                            refine ih67 (z119, z120, (some (.int z99)), hp64, t65) ⟨Hhp64, Fhp64, i68, i69, i70, (by first | omega | assumption)⟩ ?_
                                            show (31 - z120.toInt).toNat < (31 - k63.toInt).toNat
                                            omega
                 · skip
                   refine bs_lit (k := -1) rfl rfl fun z121 hz121 => ?_
                   exact Ev.ret rfl rfl (by rw [hQ]; exact ⟨thp5, Hhp5, Fhp5, bs_an0, sf_S_cons (sf_s1 (x := y7) (show sf_v1 _ _ _ 36008 = _ from ey7) (by omega) (by omega)) (sf_S_nil)⟩)
def kq_X10_which_z : sf_Q := ([(1, 10, 0)], [], some (0, 0, 0), [(1, 27005, 0, 0, 0, 0)], [(8, 1, 1)])
set_option maxRecDepth 100000 in
set_option maxHeartbeats 4000000 in
theorem ct_X10_which_z : sf_ct kq_X10_which_z Z_X10_which := by
  intro t hp as H hl hj hpre
  match as, hl with
  | [v0], _ =>
    obtain ⟨a0, rfl, ra0⟩ := bs_aR (hj 0 _ rfl)
    obtain rfl := ra0.eq H (p := 0) rfl
    clear hpre hj
    have F0 : sf_fr [(8, 1, 1)] t hp t hp := sf_fr_rf
    refine bs_fin (K := kq_X10_which_z) (L := (L_X10_which Z_X8_valueAt Z_X10_isShore Z_X10_slotOf Z_X10_couldGoSo)) (nL := 6) (Nat.le_of_ble_eq_true rfl) ?_
    obtain ⟨Q, hQ⟩ : ∃ Q : ab_O → Prop, Q = (fun o => ∃ t', sf_h t' o.2 ∧ sf_fr (kq_X10_which_z).2.2.2.2 t hp t' o.2 ∧ sf_an t' o.2.1 (kq_X10_which_z).2.2.1 o.1 ∧ sf_S (sf_v1 o.1 [.ref 0] o.2) (kq_X10_which_z).2.2.2.1) := ⟨_, rfl⟩
    rw [← hQ]
    refine (show Ev (ab_T (L_X10_which Z_X8_valueAt Z_X10_isShore Z_X10_slotOf Z_X10_couldGoSo)) 0 ([some (.ref 0), none, none, none, none, none], [], (0, 0), hp) Q from ?_)
    refine Ev.step (j := 1) (s' := ([some (.ref 0), none, none, none, none, none], [.ref 0], (0, 0), hp)) rfl rfl ?_
    refine bs_getU (g := 10) (g1 := 8) rfl rfl H (bs_R.uq H (g := 10) rfl) (by decide) rfl rfl ?_
    exact by
     refine bs_getI 8 rfl rfl rfl H (bs_R.uq H (g := 8) rfl) (by decide) rfl fun z1 hz1 lz1 gz1 => ?_
     refine Ev.step (j := 8) (s' := ([some (.ref 0), some (.int z1), none, none, none, none], [], (0, 0), hp)) rfl rfl ?_
     refine Ev.step (j := 9) (s' := ([some (.ref 0), some (.int z1), none, none, none, none], [.ref 0], (0, 0), hp)) rfl rfl ?_
     refine bs_getU (g := 10) (g1 := 8) rfl rfl H (bs_R.uq H (g := 10) rfl) (by decide) rfl rfl ?_
     refine bs_lit (k := 0) rfl rfl fun z2 hz2 => ?_
     refine bs_putI (W := [(8, 1, 1)]) (g := 8) rfl rfl H (bs_R.uq H (g := 8) rfl) (by decide) rfl rfl rfl rfl (Or.inl rfl) (by omega) (by omega) fun hp3 Hhp3 fhp3 rhp3 ehp3 qhp3 nhp3 => ?_
     have Fhp3 := sf_fr_tr F0 (sf_fr_wider (W := [(8, 1, 1)]) rfl fhp3)
     refine Ev.step (j := 17) (s' := ([some (.ref 0), some (.int z1), none, none, none, none], [.int z1], (0, 0), hp3)) rfl rfl ?_
     exact by
      refine bs_lit (k := 1) rfl rfl fun z4 hz4 => ?_
      first | (refine bs_sub rfl (by omega) (by omega) fun z5 hz5 => ?_) | (refine bs_any rfl fun z5 => ?_)
      have rz5 := n_range z5
      refine Ev.step (j := 20) (s' := ([some (.ref 0), some (.int z1), some (.int z5), none, none, none], [], (0, 0), hp3)) rfl rfl ?_
      refine Ev.step (j := 21) (s' := ([some (.ref 0), some (.int z1), some (.int z5), none, none, none], [.int z5], (0, 0), hp3)) rfl rfl ?_
      refine bs_lit (k := 2) rfl rfl fun z6 hz6 => ?_
      refine bs_lt rfl (fun c7 => ?_) (fun c7 => ?_)
      · skip
        refine bs_lit (k := -1) rfl rfl fun z8 hz8 => ?_
        exact Ev.ret rfl rfl (by rw [hQ]; exact ⟨t, Hhp3, Fhp3, bs_an0, sf_S_cons (sf_s1 (x := z2.toInt) (show sf_v1 _ _ _ 27005 = _ from rhp3) (by omega) (by omega)) (sf_S_nil)⟩)
      · skip
        refine Ev.step (j := 26) (s' := ([some (.ref 0), some (.int z1), some (.int z5), none, none, none], [.int z5], (0, 0), hp3)) rfl rfl ?_
        exact by
         refine bs_lit (k := 30) rfl rfl fun z9 hz9 => ?_
         refine bs_gt rfl (fun c10 => ?_) (fun c10 => ?_)
         · skip
           refine bs_lit (k := -1) rfl rfl fun z11 hz11 => ?_
           exact Ev.ret rfl rfl (by rw [hQ]; exact ⟨t, Hhp3, Fhp3, bs_an0, sf_S_cons (sf_s1 (x := z2.toInt) (show sf_v1 _ _ _ 27005 = _ from rhp3) (by omega) (by omega)) (sf_S_nil)⟩)
         · skip
           refine Ev.step (j := 32) (s' := ([some (.ref 0), some (.int z1), some (.int z5), none, none, none], [.ref 0], (0, 0), hp3)) rfl rfl ?_
           refine bs_getU (g := 10) (g1 := 8) rfl rfl Hhp3 (bs_R.uq Hhp3 (g := 10) rfl) (by decide) rfl rfl ?_
           refine bs_lit (k := 0) rfl rfl fun z12 hz12 => ?_
           refine Ev.inl (L := L_X8_valueAt) (nL := 2) rfl (bs_rcv (g := 8) Hhp3 (bs_R.uq Hhp3 (g := 8) rfl) (by decide) rfl) rfl (Nat.le_of_ble_eq_true rfl) ?_
           generalize hQ13 : (fun (o : ab_O) => Ev _ _ _ _) = Q13
           refine (show Ev (ab_T L_X8_valueAt) 0 ([some (.ref 1), some (.int z12)], [], (0, 0), hp3) Q13 from ?_)
           exact by
            refine Ev.step (j := 1) (s' := ([some (.ref 1), some (.int z12)], [.int z12], (0, 0), hp3)) rfl rfl ?_
            refine bs_iflt rfl (fun c14 => ?_) (fun c14 => ?_)
            · exfalso; omega
            · skip
              refine Ev.step (j := 5) (s' := ([some (.ref 1), some (.int z12)], [.int z12], (0, 0), hp3)) rfl rfl ?_
              refine bs_lit (k := 940) rfl rfl fun z15 hz15 => ?_
              refine bs_ge rfl (fun c16 => ?_) (fun c16 => ?_)
              · exfalso; omega
              · skip
                refine Ev.step (j := 12) (s' := ([some (.ref 1), some (.int z12)], [.ref 1], (0, 0), hp3)) rfl rfl ?_
                refine bs_getU (g := 8) (g1 := 123) rfl rfl Hhp3 (bs_R.uq Hhp3 (g := 8) rfl) (by decide) rfl rfl ?_
                refine Ev.step (j := 16) (s' := ([some (.ref 1), some (.int z12)], [.int z12, .ref 2], (0, 0), hp3)) rfl rfl ?_
                exact by
                 refine bs_ld (g := 123) 0 939 (-2147483648, 2147483647) rfl Hhp3 (bs_R.uq Hhp3 (g := 123) rfl) (by decide) rfl (by decide) (by decide) rfl (by decide) (by omega) (by omega) fun z17 hz17 lz17 gz17 => ?_
                 dsimp only at lz17 gz17
                 replace hz17 := bs_at hz17 (show z12.toInt.toNat = 0 by omega)
                 refine bs_lit (k := 255) rfl rfl fun z18 hz18 => ?_
                 refine bs_andF rfl (by omega) fun z19 qz19 hz19 gz19 => ?_
                 refine Ev.step (j := 25) (s' := ([some (.ref 1), some (.int z12)], [.int z19], (0, 0), hp3)) rfl rfl ?_
                 refine Ev.ret rfl rfl ?_
                 rw [← hQ13]
                 refine (show Ev _ 39 ([some (.ref 0), some (.int z1), some (.int z5), none, none, none], [.int z19], (0, 0), hp3) _ from ?_)
                 refine Ev.inlS (L := L_X10_isShore) (nL := 1) rfl rfl (Nat.le_of_ble_eq_true rfl) ?_
                 generalize hQ20 : (fun (o : ab_O) => Ev _ _ _ _) = Q20
                 refine (show Ev (ab_T L_X10_isShore) 0 ([some (.int z19)], [], (0, 0), hp3) Q20 from ?_)
                 exact by
                  refine Ev.step (j := 1) (s' := ([some (.int z19)], [.int z19], (0, 0), hp3)) rfl rfl ?_
                  refine bs_ifeq rfl (fun c21 => ?_) (fun c21 => ?_)
                  · skip
                    have c22 : z19.toInt = 0 := by omega
                    refine bs_lit (k := 1) rfl rfl fun z23 hz23 => ?_
                    refine Ev.step (j := 14) (s' := ([some (.int z19)], [.int z23], (0, 0), hp3)) rfl rfl ?_
                    refine bs_zret rfl rfl (by omega) (by omega) ?_
                    rw [← hQ20]
                    refine (show Ev _ 42 ([some (.ref 0), some (.int z1), some (.int z5), none, none, none], [.int z23], (0, 0), hp3) _ from ?_)
                    refine bs_ifne rfl (fun c24 => ?_) (fun c24 => ?_)
                    · skip
                      refine Ev.step (j := 48) (s' := ([some (.ref 0), some (.int z1), some (.int z5), none, none, none], [.ref 0], (0, 0), hp3)) rfl rfl ?_
                      exact by
                       refine bs_getU (g := 10) (g1 := 8) rfl rfl Hhp3 (bs_R.uq Hhp3 (g := 10) rfl) (by decide) rfl rfl ?_
                       refine bs_lit (k := 0) rfl rfl fun z25 hz25 => ?_
                       refine Ev.inl (L := L_X8_valueAt) (nL := 2) rfl (bs_rcv (g := 8) Hhp3 (bs_R.uq Hhp3 (g := 8) rfl) (by decide) rfl) rfl (Nat.le_of_ble_eq_true rfl) ?_
                       generalize hQ26 : (fun (o : ab_O) => Ev _ _ _ _) = Q26
                       refine (show Ev (ab_T L_X8_valueAt) 0 ([some (.ref 1), some (.int z25)], [], (0, 0), hp3) Q26 from ?_)
                       refine Ev.step (j := 1) (s' := ([some (.ref 1), some (.int z25)], [.int z25], (0, 0), hp3)) rfl rfl ?_
                       refine bs_iflt rfl (fun c27 => ?_) (fun c27 => ?_)
                       · exfalso; omega
                       · skip
                         refine Ev.step (j := 5) (s' := ([some (.ref 1), some (.int z25)], [.int z25], (0, 0), hp3)) rfl rfl ?_
                         refine bs_lit (k := 940) rfl rfl fun z28 hz28 => ?_
                         exact by
                          refine bs_ge rfl (fun c29 => ?_) (fun c29 => ?_)
                          · exfalso; omega
                          · skip
                            refine Ev.step (j := 12) (s' := ([some (.ref 1), some (.int z25)], [.ref 1], (0, 0), hp3)) rfl rfl ?_
                            refine bs_getU (g := 8) (g1 := 123) rfl rfl Hhp3 (bs_R.uq Hhp3 (g := 8) rfl) (by decide) rfl rfl ?_
                            refine Ev.step (j := 16) (s' := ([some (.ref 1), some (.int z25)], [.int z25, .ref 2], (0, 0), hp3)) rfl rfl ?_
                            refine bs_ld (g := 123) 0 939 (-2147483648, 2147483647) rfl Hhp3 (bs_R.uq Hhp3 (g := 123) rfl) (by decide) rfl (by decide) (by decide) rfl (by decide) (by omega) (by omega) fun z30 hz30 lz30 gz30 => ?_
                            dsimp only at lz30 gz30
                            replace hz30 := bs_at hz30 (show z25.toInt.toNat = 0 by omega)
                            have e31 : z30.toInt = z17.toInt := Option.some.inj (hz30.symm.trans hz17)
                            refine bs_lit (k := 255) rfl rfl fun z32 hz32 => ?_
                            exact by
                             refine bs_andF rfl (by omega) fun z33 qz33 hz33 gz33 => ?_
                             have e34 : z33.toInt = z19.toInt := and_same qz33 qz19 (by omega) (by omega)
                             refine Ev.step (j := 25) (s' := ([some (.ref 1), some (.int z25)], [.int z33], (0, 0), hp3)) rfl rfl ?_
                             refine Ev.ret rfl rfl ?_
                             rw [← hQ26]
                             refine (show Ev _ 55 ([some (.ref 0), some (.int z1), some (.int z5), none, none, none], [.int z33], (0, 0), hp3) _ from ?_)
                             refine Ev.step (j := 56) (s' := ([some (.ref 0), some (.int z1), some (.int z5), some (.int z33), none, none], [], (0, 0), hp3)) rfl rfl ?_
                             refine bs_lit (k := 0) rfl rfl fun z35 hz35 => ?_
                             refine Ev.step (j := 59) (s' := ([some (.ref 0), some (.int z1), some (.int z5), some (.int z33), some (.int z35), none], [], (0, 0), hp3)) rfl rfl ?_
                             exact by
                              refine bs_lit (k := 0) rfl rfl fun z36 hz36 => ?_
                              refine Ev.step (j := 62) (s' := ([some (.ref 0), some (.int z1), some (.int z5), some (.int z33), some (.int z35), some (.int z36)], [], (0, 0), hp3)) rfl rfl ?_
                              refine bs_loop (ι := Int32 × Int32 × ab_H × (Nat → Nat)) (fun ⟨k37, k38, hp39, t40⟩ => ([some (.ref 0), some (.int z1), some (.int z5), some (.int z33), some (.int k37), some (.int k38)], [], (0, 0), hp39)) (fun ⟨k37, k38, hp39, t40⟩ => (sf_h t40 hp39) ∧ (sf_fr [(8, 1, 1)] t hp t40 hp39) ∧ (sf_rd hp39 1 1 = some z2.toInt) ∧ (0 ≤ k38.toInt ∧ k38.toInt ≤ 6)) (fun ⟨k37, k38, hp39, t40⟩ => (6 - k38.toInt).toNat) ?_ (z35, z36, hp3, t) ⟨Hhp3, Fhp3, rhp3, (by first | omega | assumption)⟩
                              rintro ⟨k37, k38, hp39, t40⟩ ⟨Hhp39, Fhp39, i42, i43⟩ ih41
                              refine (show Ev _ 62 ([some (.ref 0), some (.int z1), some (.int z5), some (.int z33), some (.int k37), some (.int k38)], [], (0, 0), hp39) _ from ?_)
                              refine Ev.step (j := 64) (s' := ([some (.ref 0), some (.int z1), some (.int z5), some (.int z33), some (.int k37), some (.int k38)], [.int k38], (0, 0), hp39)) rfl rfl ?_
                              refine Ev.step (j := 65) (s' := ([some (.ref 0), some (.int z1), some (.int z5), some (.int z33), some (.int k37), some (.int k38)], [.ref 0, .int k38], (0, 0), hp39)) rfl rfl ?_
                              refine bs_getR (g := 10) (g1 := 7) rfl rfl Hhp39 (bs_R.uq Hhp39 (g := 10) rfl) (by decide) rfl fun b44 qb44 rb44 => ?_
                              exact by
                               refine bs_getI 7 rfl rfl rfl Hhp39 rb44 (by decide) rfl fun z45 hz45 lz45 gz45 => ?_
                               refine bs_ge rfl (fun c46 => ?_) (fun c46 => ?_)
                               · skip
                                 refine Ev.step (j := 105) (s' := ([some (.ref 0), some (.int z1), some (.int z5), some (.int z33), some (.int k37), some (.int k38)], [.int k37], (0, 0), hp39)) rfl rfl ?_
                                 exact Ev.ret rfl rfl (by rw [hQ]; exact ⟨t40, Hhp39, Fhp39, bs_an0, sf_S_cons (sf_s1 (x := z2.toInt) (show sf_v1 _ _ _ 27005 = _ from i42) (by omega) (by omega)) (sf_S_nil)⟩)
                               · skip
                                 refine Ev.step (j := 75) (s' := ([some (.ref 0), some (.int z1), some (.int z5), some (.int z33), some (.int k37), some (.int k38)], [.ref 0], (0, 0), hp39)) rfl rfl ?_
                                 refine Ev.step (j := 77) (s' := ([some (.ref 0), some (.int z1), some (.int z5), some (.int z33), some (.int k37), some (.int k38)], [.int k38, .ref 0], (0, 0), hp39)) rfl rfl ?_
                                 refine Ev.step (j := 78) (s' := ([some (.ref 0), some (.int z1), some (.int z5), some (.int z33), some (.int k37), some (.int k38)], [.int z33, .int k38, .ref 0], (0, 0), hp39)) rfl rfl ?_
                                 refine Ev.inlS (L := L_X10_slotOf) (nL := 2) rfl rfl (Nat.le_of_ble_eq_true rfl) ?_
                                 generalize hQ47 : (fun (o : ab_O) => Ev _ _ _ _) = Q47
                                 refine (show Ev (ab_T L_X10_slotOf) 0 ([some (.int k38), some (.int z33)], [], (0, 0), hp39) Q47 from ?_)
                                 exact by
                                  refine bs_lit (k := 2) rfl rfl fun z48 hz48 => ?_
                                  refine Ev.step (j := 2) (s' := ([some (.int k38), some (.int z33)], [.int k38, .int z48], (0, 0), hp39)) rfl rfl ?_
                                  refine bs_mul (2) rfl (Or.inl hz48) (by rw [hz48]; omega) (by rw [hz48]; omega) fun z49 hz49 => ?_
                                  rw [hz48] at hz49
                                  refine Ev.step (j := 4) (s' := ([some (.int k38), some (.int z33)], [.int z33, .int z49], (0, 0), hp39)) rfl rfl ?_
                                  first | (refine bs_add rfl (by omega) (by omega) fun z50 hz50 => ?_) | (refine bs_any rfl fun z50 => ?_)
                                  have rz50 := n_range z50
                                  refine Ev.ret rfl rfl ?_
                                  rw [← hQ47]
                                  refine (show Ev _ 81 ([some (.ref 0), some (.int z1), some (.int z5), some (.int z33), some (.int k37), some (.int k38)], [.int z50, .ref 0], (0, 0), hp39) _ from ?_)
                                  exact by
                                   refine Ev.step (j := 82) (s' := ([some (.ref 0), some (.int z1), some (.int z5), some (.int z33), some (.int k37), some (.int k38)], [.int z5, .int z50, .ref 0], (0, 0), hp39)) rfl rfl ?_
                                   refine bs_call (K := kq_X10_couldGoSo_925abe) [.ref 0, .int z50, .int z5] [] rfl ct_X10_couldGoSo_925abe Hhp39 rfl rfl rfl (bs_rcv (g := 10) Hhp39 (bs_R.uq Hhp39 (g := 10) rfl) (by decide) rfl) rfl ?_ (sf_S_cons (sf_s1 (x := z50.toInt) rfl (by omega) (by omega)) (sf_S_cons (sf_s1 (x := z5.toInt) rfl (by omega) (by omega)) (sf_S_nil))) fun r51 hp52 thp52 Hhp52 fhp52 ahp52 php52 => ?_
                                   · intro q k h
                                     match q, h with
                                     | 0, h => cases h; exact bs_jR (bs_R.uq Hhp39 (g := 10) rfl)
                                     | 1, h => cases h; exact sf_j0
                                     | 2, h => cases h; exact sf_j0
                                     | q + 3, h => cases h
                                   obtain ⟨z53, rfl⟩ := bs_anI ahp52
                                   have rgz53 := n_range z53
                                   have Fhp52 := sf_fr_tr Fhp39 (sf_fr_wider (W := [(8, 1, 1)]) rfl fhp52)
                                   have h54 : sf_rd hp52 1 1 = some z2.toInt := (fhp52.2.2.1 _ (bs_R.uq Hhp39 (g := 8) (p := 1) rfl).1 _ (by rw [(bs_R.uq Hhp39 (g := 8) (p := 1) rfl).2]; rfl)).trans i42
                                   have h55 : sf_rd hp52 b44 8 = some z45.toInt := (fhp52.2.2.1 _ rb44.1 _ (by rw [rb44.2]; rfl)).trans hz45
                                   obtain ⟨uz53, vz53⟩ := bs_s1 (x := z53.toInt) rfl (php52 _ (List.mem_of_getElem? (i := 0) rfl))
                                   have r56 := rb44.fr fhp52
                                   refine (show Ev _ 85 ([some (.ref 0), some (.int z1), some (.int z5), some (.int z33), some (.int k37), some (.int k38)], [.int z53], (0, 0), hp52) _ from ?_)
                                   exact by
                                    refine bs_ifeq rfl (fun c57 => ?_) (fun c57 => ?_)
                                    · skip
                                      have c58 : z53.toInt = 0 := by omega
                                      refine bs_iinc (1) rfl rfl rfl rfl (by omega) (by omega) fun z59 hz59 => ?_
                                      refine (show Ev _ 100 ([some (.ref 0), some (.int z1), some (.int z5), some (.int z33), some (.int k37), some (.int z59)], [], (0, 0), hp52) _ from ?_)
                                      refine Ev.step (j := 62) (s' := ([some (.ref 0), some (.int z1), some (.int z5), some (.int z33), some (.int k37), some (.int z59)], [], (0, 0), hp52)) rfl rfl ?_
                                      refine ih41 (k37, z59, hp52, thp52) ⟨Hhp52, Fhp52, h54, (by first | omega | assumption)⟩ ?_
                                      show (6 - z59.toInt).toNat < (6 - k38.toInt).toNat
                                      omega
                                    · skip
                                      refine Ev.step (j := 90) (s' := ([some (.ref 0), some (.int z1), some (.int z5), some (.int z33), some (.int k37), some (.int k38)], [.int k37], (0, 0), hp52)) rfl rfl ?_
                                      refine bs_lit (k := 1) rfl rfl fun z60 hz60 => ?_
                                      exact by
                                       refine Ev.step (j := 93) (s' := ([some (.ref 0), some (.int z1), some (.int z5), some (.int z33), some (.int k37), some (.int k38)], [.int k38, .int z60, .int k37], (0, 0), hp52)) rfl rfl ?_
                                       refine bs_any rfl fun z61 => ?_
                                       have rz61 := n_range z61
                                       refine bs_any rfl fun z62 => ?_
                                       have rz62 := n_range z62
                                       refine Ev.step (j := 97) (s' := ([some (.ref 0), some (.int z1), some (.int z5), some (.int z33), some (.int z62), some (.int k38)], [], (0, 0), hp52)) rfl rfl ?_
                                       refine bs_iinc (1) rfl rfl rfl rfl (by omega) (by omega) fun z63 hz63 => ?_
                                       refine (show Ev _ 100 ([some (.ref 0), some (.int z1), some (.int z5), some (.int z33), some (.int z62), some (.int z63)], [], (0, 0), hp52) _ from ?_)
                                       exact by
                                        refine Ev.step (j := 62) (s' := ([some (.ref 0), some (.int z1), some (.int z5), some (.int z33), some (.int z62), some (.int z63)], [], (0, 0), hp52)) rfl rfl ?_
                                        refine ih41 (z62, z63, hp52, thp52) ⟨Hhp52, Fhp52, h54, (by first | omega | assumption)⟩ ?_
                                        show (6 - z63.toInt).toNat < (6 - k38.toInt).toNat
                                        omega
                    · exfalso; omega
                  · skip
                    refine Ev.step (j := 5) (s' := ([some (.int z19)], [.int z19], (0, 0), hp3)) rfl rfl ?_
                    exact by
                     refine bs_lit (k := 1) rfl rfl fun z64 hz64 => ?_
                     refine bs_ne rfl (fun c65 => ?_) (fun c65 => ?_)
                     · skip
                       refine bs_lit (k := 0) rfl rfl fun z66 hz66 => ?_
                       refine bs_zret rfl rfl (by omega) (by omega) ?_
                       rw [← hQ20]
                       refine (show Ev _ 42 ([some (.ref 0), some (.int z1), some (.int z5), none, none, none], [.int z66], (0, 0), hp3) _ from ?_)
                       refine bs_ifne rfl (fun c67 => ?_) (fun c67 => ?_)
                       · exfalso; omega
                       · skip
                         refine bs_lit (k := -1) rfl rfl fun z68 hz68 => ?_
                         exact Ev.ret rfl rfl (by rw [hQ]; exact ⟨t, Hhp3, Fhp3, bs_an0, sf_S_cons (sf_s1 (x := z2.toInt) (show sf_v1 _ _ _ 27005 = _ from rhp3) (by omega) (by omega)) (sf_S_nil)⟩)
                     · skip
                       have c69 : z19.toInt = 1 := by omega
                       refine bs_lit (k := 1) rfl rfl fun z70 hz70 => ?_
                       exact by
                        refine Ev.step (j := 14) (s' := ([some (.int z19)], [.int z70], (0, 0), hp3)) rfl rfl ?_
                        refine bs_zret rfl rfl (by omega) (by omega) ?_
                        rw [← hQ20]
                        refine (show Ev _ 42 ([some (.ref 0), some (.int z1), some (.int z5), none, none, none], [.int z70], (0, 0), hp3) _ from ?_)
                        refine bs_ifne rfl (fun c71 => ?_) (fun c71 => ?_)
                        · skip
                          refine Ev.step (j := 48) (s' := ([some (.ref 0), some (.int z1), some (.int z5), none, none, none], [.ref 0], (0, 0), hp3)) rfl rfl ?_
                          refine bs_getU (g := 10) (g1 := 8) rfl rfl Hhp3 (bs_R.uq Hhp3 (g := 10) rfl) (by decide) rfl rfl ?_
                          refine bs_lit (k := 0) rfl rfl fun z72 hz72 => ?_
                          refine Ev.inl (L := L_X8_valueAt) (nL := 2) rfl (bs_rcv (g := 8) Hhp3 (bs_R.uq Hhp3 (g := 8) rfl) (by decide) rfl) rfl (Nat.le_of_ble_eq_true rfl) ?_
                          generalize hQ73 : (fun (o : ab_O) => Ev _ _ _ _) = Q73
                          refine (show Ev (ab_T L_X8_valueAt) 0 ([some (.ref 1), some (.int z72)], [], (0, 0), hp3) Q73 from ?_)
                          exact by
                           refine Ev.step (j := 1) (s' := ([some (.ref 1), some (.int z72)], [.int z72], (0, 0), hp3)) rfl rfl ?_
                           refine bs_iflt rfl (fun c74 => ?_) (fun c74 => ?_)
                           · exfalso; omega
                           · skip
                             refine Ev.step (j := 5) (s' := ([some (.ref 1), some (.int z72)], [.int z72], (0, 0), hp3)) rfl rfl ?_
                             refine bs_lit (k := 940) rfl rfl fun z75 hz75 => ?_
                             refine bs_ge rfl (fun c76 => ?_) (fun c76 => ?_)
                             · exfalso; omega
                             · skip
                               refine Ev.step (j := 12) (s' := ([some (.ref 1), some (.int z72)], [.ref 1], (0, 0), hp3)) rfl rfl ?_
                               refine bs_getU (g := 8) (g1 := 123) rfl rfl Hhp3 (bs_R.uq Hhp3 (g := 8) rfl) (by decide) rfl rfl ?_
                               refine Ev.step (j := 16) (s' := ([some (.ref 1), some (.int z72)], [.int z72, .ref 2], (0, 0), hp3)) rfl rfl ?_
                               exact by
                                refine bs_ld (g := 123) 0 939 (-2147483648, 2147483647) rfl Hhp3 (bs_R.uq Hhp3 (g := 123) rfl) (by decide) rfl (by decide) (by decide) rfl (by decide) (by omega) (by omega) fun z77 hz77 lz77 gz77 => ?_
                                dsimp only at lz77 gz77
                                replace hz77 := bs_at hz77 (show z72.toInt.toNat = 0 by omega)
                                have e78 : z77.toInt = z17.toInt := Option.some.inj (hz77.symm.trans hz17)
                                refine bs_lit (k := 255) rfl rfl fun z79 hz79 => ?_
                                refine bs_andF rfl (by omega) fun z80 qz80 hz80 gz80 => ?_
                                have e81 : z80.toInt = z19.toInt := and_same qz80 qz19 (by omega) (by omega)
                                refine Ev.step (j := 25) (s' := ([some (.ref 1), some (.int z72)], [.int z80], (0, 0), hp3)) rfl rfl ?_
                                refine Ev.ret rfl rfl ?_
                                rw [← hQ73]
                                refine (show Ev _ 55 ([some (.ref 0), some (.int z1), some (.int z5), none, none, none], [.int z80], (0, 0), hp3) _ from ?_)
                                exact by
                                 refine Ev.step (j := 56) (s' := ([some (.ref 0), some (.int z1), some (.int z5), some (.int z80), none, none], [], (0, 0), hp3)) rfl rfl ?_
                                 refine bs_lit (k := 0) rfl rfl fun z82 hz82 => ?_
                                 refine Ev.step (j := 59) (s' := ([some (.ref 0), some (.int z1), some (.int z5), some (.int z80), some (.int z82), none], [], (0, 0), hp3)) rfl rfl ?_
                                 refine bs_lit (k := 0) rfl rfl fun z83 hz83 => ?_
                                 refine Ev.step (j := 62) (s' := ([some (.ref 0), some (.int z1), some (.int z5), some (.int z80), some (.int z82), some (.int z83)], [], (0, 0), hp3)) rfl rfl ?_
                                 refine bs_loop (ι := Int32 × Int32 × ab_H × (Nat → Nat)) (fun ⟨k84, k85, hp86, t87⟩ => ([some (.ref 0), some (.int z1), some (.int z5), some (.int z80), some (.int k84), some (.int k85)], [], (0, 0), hp86)) (fun ⟨k84, k85, hp86, t87⟩ => (sf_h t87 hp86) ∧ (sf_fr [(8, 1, 1)] t hp t87 hp86) ∧ (sf_rd hp86 1 1 = some z2.toInt) ∧ (0 ≤ k85.toInt ∧ k85.toInt ≤ 6)) (fun ⟨k84, k85, hp86, t87⟩ => (6 - k85.toInt).toNat) ?_ (z82, z83, hp3, t) ⟨Hhp3, Fhp3, rhp3, (by first | omega | assumption)⟩
                                 rintro ⟨k84, k85, hp86, t87⟩ ⟨Hhp86, Fhp86, i89, i90⟩ ih88
                                 refine (show Ev _ 62 ([some (.ref 0), some (.int z1), some (.int z5), some (.int z80), some (.int k84), some (.int k85)], [], (0, 0), hp86) _ from ?_)
                                 exact by
                                  refine Ev.step (j := 64) (s' := ([some (.ref 0), some (.int z1), some (.int z5), some (.int z80), some (.int k84), some (.int k85)], [.int k85], (0, 0), hp86)) rfl rfl ?_
                                  refine Ev.step (j := 65) (s' := ([some (.ref 0), some (.int z1), some (.int z5), some (.int z80), some (.int k84), some (.int k85)], [.ref 0, .int k85], (0, 0), hp86)) rfl rfl ?_
                                  refine bs_getR (g := 10) (g1 := 7) rfl rfl Hhp86 (bs_R.uq Hhp86 (g := 10) rfl) (by decide) rfl fun b91 qb91 rb91 => ?_
                                  refine bs_getI 7 rfl rfl rfl Hhp86 rb91 (by decide) rfl fun z92 hz92 lz92 gz92 => ?_
                                  refine bs_ge rfl (fun c93 => ?_) (fun c93 => ?_)
                                  · skip
                                    refine Ev.step (j := 105) (s' := ([some (.ref 0), some (.int z1), some (.int z5), some (.int z80), some (.int k84), some (.int k85)], [.int k84], (0, 0), hp86)) rfl rfl ?_
                                    exact Ev.ret rfl rfl (by rw [hQ]; exact ⟨t87, Hhp86, Fhp86, bs_an0, sf_S_cons (sf_s1 (x := z2.toInt) (show sf_v1 _ _ _ 27005 = _ from i89) (by omega) (by omega)) (sf_S_nil)⟩)
                                  · skip
                                    refine Ev.step (j := 75) (s' := ([some (.ref 0), some (.int z1), some (.int z5), some (.int z80), some (.int k84), some (.int k85)], [.ref 0], (0, 0), hp86)) rfl rfl ?_
                                    refine Ev.step (j := 77) (s' := ([some (.ref 0), some (.int z1), some (.int z5), some (.int z80), some (.int k84), some (.int k85)], [.int k85, .ref 0], (0, 0), hp86)) rfl rfl ?_
                                    exact by
                                     refine Ev.step (j := 78) (s' := ([some (.ref 0), some (.int z1), some (.int z5), some (.int z80), some (.int k84), some (.int k85)], [.int z80, .int k85, .ref 0], (0, 0), hp86)) rfl rfl ?_
                                     refine Ev.inlS (L := L_X10_slotOf) (nL := 2) rfl rfl (Nat.le_of_ble_eq_true rfl) ?_
                                     generalize hQ94 : (fun (o : ab_O) => Ev _ _ _ _) = Q94
                                     refine (show Ev (ab_T L_X10_slotOf) 0 ([some (.int k85), some (.int z80)], [], (0, 0), hp86) Q94 from ?_)
                                     refine bs_lit (k := 2) rfl rfl fun z95 hz95 => ?_
                                     refine Ev.step (j := 2) (s' := ([some (.int k85), some (.int z80)], [.int k85, .int z95], (0, 0), hp86)) rfl rfl ?_
                                     refine bs_mul (2) rfl (Or.inl hz95) (by rw [hz95]; omega) (by rw [hz95]; omega) fun z96 hz96 => ?_
                                     rw [hz95] at hz96
                                     refine Ev.step (j := 4) (s' := ([some (.int k85), some (.int z80)], [.int z80, .int z96], (0, 0), hp86)) rfl rfl ?_
                                     first | (refine bs_add rfl (by omega) (by omega) fun z97 hz97 => ?_) | (refine bs_any rfl fun z97 => ?_)
                                     have rz97 := n_range z97
                                     refine Ev.ret rfl rfl ?_
                                     rw [← hQ94]
                                     refine (show Ev _ 81 ([some (.ref 0), some (.int z1), some (.int z5), some (.int z80), some (.int k84), some (.int k85)], [.int z97, .ref 0], (0, 0), hp86) _ from ?_)
                                     exact by
                                      refine Ev.step (j := 82) (s' := ([some (.ref 0), some (.int z1), some (.int z5), some (.int z80), some (.int k84), some (.int k85)], [.int z5, .int z97, .ref 0], (0, 0), hp86)) rfl rfl ?_
                                      refine bs_call (K := kq_X10_couldGoSo_925abe) [.ref 0, .int z97, .int z5] [] rfl ct_X10_couldGoSo_925abe Hhp86 rfl rfl rfl (bs_rcv (g := 10) Hhp86 (bs_R.uq Hhp86 (g := 10) rfl) (by decide) rfl) rfl ?_ (sf_S_cons (sf_s1 (x := z97.toInt) rfl (by omega) (by omega)) (sf_S_cons (sf_s1 (x := z5.toInt) rfl (by omega) (by omega)) (sf_S_nil))) fun r98 hp99 thp99 Hhp99 fhp99 ahp99 php99 => ?_
                                      · intro q k h
                                        match q, h with
                                        | 0, h => cases h; exact bs_jR (bs_R.uq Hhp86 (g := 10) rfl)
                                        | 1, h => cases h; exact sf_j0
                                        | 2, h => cases h; exact sf_j0
                                        | q + 3, h => cases h
                                      obtain ⟨z100, rfl⟩ := bs_anI ahp99
                                      have rgz100 := n_range z100
                                      have Fhp99 := sf_fr_tr Fhp86 (sf_fr_wider (W := [(8, 1, 1)]) rfl fhp99)
                                      have h101 : sf_rd hp99 1 1 = some z2.toInt := (fhp99.2.2.1 _ (bs_R.uq Hhp86 (g := 8) (p := 1) rfl).1 _ (by rw [(bs_R.uq Hhp86 (g := 8) (p := 1) rfl).2]; rfl)).trans i89
                                      have h102 : sf_rd hp99 b91 8 = some z92.toInt := (fhp99.2.2.1 _ rb91.1 _ (by rw [rb91.2]; rfl)).trans hz92
                                      obtain ⟨uz100, vz100⟩ := bs_s1 (x := z100.toInt) rfl (php99 _ (List.mem_of_getElem? (i := 0) rfl))
                                      have r103 := rb91.fr fhp99
                                      refine (show Ev _ 85 ([some (.ref 0), some (.int z1), some (.int z5), some (.int z80), some (.int k84), some (.int k85)], [.int z100], (0, 0), hp99) _ from ?_)
                                      exact by
                                       refine bs_ifeq rfl (fun c104 => ?_) (fun c104 => ?_)
                                       · skip
                                         have c105 : z100.toInt = 0 := by omega
                                         refine bs_iinc (1) rfl rfl rfl rfl (by omega) (by omega) fun z106 hz106 => ?_
                                         refine (show Ev _ 100 ([some (.ref 0), some (.int z1), some (.int z5), some (.int z80), some (.int k84), some (.int z106)], [], (0, 0), hp99) _ from ?_)
                                         refine Ev.step (j := 62) (s' := ([some (.ref 0), some (.int z1), some (.int z5), some (.int z80), some (.int k84), some (.int z106)], [], (0, 0), hp99)) rfl rfl ?_
                                         refine ih88 (k84, z106, hp99, thp99) ⟨Hhp99, Fhp99, h101, (by first | omega | assumption)⟩ ?_
                                         show (6 - z106.toInt).toNat < (6 - k85.toInt).toNat
                                         omega
                                       · skip
                                         refine Ev.step (j := 90) (s' := ([some (.ref 0), some (.int z1), some (.int z5), some (.int z80), some (.int k84), some (.int k85)], [.int k84], (0, 0), hp99)) rfl rfl ?_
                                         refine bs_lit (k := 1) rfl rfl fun z107 hz107 => ?_
                                         exact by
                                          refine Ev.step (j := 93) (s' := ([some (.ref 0), some (.int z1), some (.int z5), some (.int z80), some (.int k84), some (.int k85)], [.int k85, .int z107, .int k84], (0, 0), hp99)) rfl rfl ?_
                                          refine bs_any rfl fun z108 => ?_
                                          have rz108 := n_range z108
                                          refine bs_any rfl fun z109 => ?_
                                          have rz109 := n_range z109
                                          refine Ev.step (j := 97) (s' := ([some (.ref 0), some (.int z1), some (.int z5), some (.int z80), some (.int z109), some (.int k85)], [], (0, 0), hp99)) rfl rfl ?_
                                          refine bs_iinc (1) rfl rfl rfl rfl (by omega) (by omega) fun z110 hz110 => ?_
                                          refine (show Ev _ 100 ([some (.ref 0), some (.int z1), some (.int z5), some (.int z80), some (.int z109), some (.int z110)], [], (0, 0), hp99) _ from ?_)
                                          exact by
                                           refine Ev.step (j := 62) (s' := ([some (.ref 0), some (.int z1), some (.int z5), some (.int z80), some (.int z109), some (.int z110)], [], (0, 0), hp99)) rfl rfl ?_
                                           refine ih88 (z109, z110, hp99, thp99) ⟨Hhp99, Fhp99, h101, (by first | omega | assumption)⟩ ?_
                                           show (6 - z110.toInt).toNat < (6 - k85.toInt).toNat
                                           omega
                        · exfalso; omega
def kq_X6_missedBy_49c0cb : sf_Q := ([(1, 6, 0), (1, 7, 0), (0, 0, 0)], [(1, 6, 0, 0, 7, 0)], some (0, 0, 0), [], [])
def kc_X6_missedBy_49c0cb : List (Nat × sf_I) := [(0, 0, [1, 0]),
  (1, 5, [2, 3]),
  (2, 0, [3, 0]),
  (3, 5, [5, 4]),
  (5, 2, [7, 4]),
  (7, 4, [8, 1]),
  (8, 23, [11, 7, 10]),
  (11, 21, [14, 53, 5]),
  (14, 4, [15, 1]),
  (15, 23, [18, 7, 4]),
  (18, 2, [20, 4]),
  (20, 25, [21, 1]),
  (21, 2, [22, 2]),
  (22, 21, [25, 47, 1]),
  (25, 4, [26, 0]),
  (26, 4, [27, 1]),
  (27, 2, [29, 4]),
  (29, 32, [32, 0, 3, 6, 0, 0, 0, 0]),
  (32, 20, [35, 47, 0]),
  (35, 2, [36, 3]),
  (36, 0, [37, 1]),
  (37, 4, [38, 1]),
  (38, 23, [41, 7, 5]),
  (41, 2, [43, 4]),
  (43, 25, [44, 1]),
  (44, 9, [45, 6]),
  (45, 9, [46, 4]),
  (46, 5, [47, 3]),
  (47, 8, [50, 4, 1]),
  (50, 22, [5]),
  (53, 2, [54, 3]),
  (54, 35, [0, 0])]
def kd_X6_missedBy_49c0cb_0 : List (Nat × sf_D × sf_M) := [(0, ([(1, 6, 0), (1, 7, 0), (0, 0, 0), (8, 0, 0), (8, 0, 0)], [], [(1, 7, 0, 0, 7, 0)], 0, 0), (588, [])),
  (1, ([(1, 6, 0), (1, 7, 0), (0, 0, 0), (8, 0, 0), (8, 0, 0)], [(0, 0, 0)], [(1, 7, 0, 0, 7, 0), (1, 0, 0, 0, 0, 0)], 0, 0), (587, [])),
  (2, ([(1, 6, 0), (1, 7, 0), (0, 0, 0), (0, 0, 0), (8, 0, 0)], [], [(1, 7, 0, 0, 7, 0), (1, 10, 0, 0, 0, 0)], 0, 0), (586, [])),
  (3, ([(1, 6, 0), (1, 7, 0), (0, 0, 0), (0, 0, 0), (8, 0, 0)], [(0, 0, 0)], [(1, 7, 0, 0, 7, 0), (1, 10, 0, 0, 0, 0), (1, 0, 0, 0, 0, 0)], 0, 0), (585, [])),
  (5, ([(1, 6, 0), (1, 7, 0), (0, 0, 0), (0, 0, 0), (0, 0, 0)], [], [(1, 7, 0, 0, 7, 0), (1, 10, 0, -2147483648, 2147483647, 0), (1, 13, 0, 0, 20, 0)], 0, 0), (24, [(28, 13, 20, 0)])),
  (7, ([(1, 6, 0), (1, 7, 0), (0, 0, 0), (0, 0, 0), (0, 0, 0)], [(0, 0, 0)], [(1, 7, 0, 0, 7, 0), (1, 10, 0, -2147483648, 2147483647, 0), (1, 13, 0, 0, 20, 0), (1, 0, 0, 0, 20, 0), (2, 0, 13, 1, 0, 0)], 0, 0), (23, [(28, 13, 20, 0)])),
  (8, ([(1, 6, 0), (1, 7, 0), (0, 0, 0), (0, 0, 0), (0, 0, 0)], [(1, 7, 0), (0, 0, 0)], [(1, 7, 0, 0, 7, 0), (1, 10, 0, -2147483648, 2147483647, 0), (1, 13, 0, 0, 20, 0), (1, 0, 0, 0, 20, 0), (2, 0, 13, 1, 0, 0)], 0, 0), (22, [(28, 13, 20, 0)]))]
def kd_X6_missedBy_49c0cb_1 : List (Nat × sf_D × sf_M) := [(11, ([(1, 6, 0), (1, 7, 0), (0, 0, 0), (0, 0, 0), (0, 0, 0)], [(0, 0, 20), (0, 0, 0)], [(1, 7, 0, 0, 7, 0), (1, 10, 0, -2147483648, 2147483647, 0), (1, 13, 0, 0, 20, 0), (1, 0, 0, 0, 20, 0), (1, 3, 0, 0, 20, 0), (2, 0, 13, 1, 0, 0)], 0, 0), (21, [(28, 13, 20, 0)])),
  (14, ([(1, 6, 0), (1, 7, 0), (0, 0, 0), (0, 0, 0), (0, 0, 0)], [], [(1, 7, 0, 0, 7, 0), (1, 10, 0, -2147483648, 2147483647, 0), (1, 13, 0, 0, 19, 0)], 0, 0), (20, [(28, 13, 20, 0)])),
  (15, ([(1, 6, 0), (1, 7, 0), (0, 0, 0), (0, 0, 0), (0, 0, 0)], [(1, 7, 0)], [(1, 7, 0, 0, 7, 0), (1, 10, 0, -2147483648, 2147483647, 0), (1, 13, 0, 0, 19, 0)], 0, 0), (19, [(28, 13, 20, 0)])),
  (18, ([(1, 6, 0), (1, 7, 0), (0, 0, 0), (0, 0, 0), (0, 0, 0)], [(1, 120, 0)], [(1, 7, 0, 0, 7, 0), (1, 10, 0, -2147483648, 2147483647, 0), (1, 13, 0, 0, 19, 0)], 0, 0), (18, [(28, 13, 20, 0)])),
  (20, ([(1, 6, 0), (1, 7, 0), (0, 0, 0), (0, 0, 0), (0, 0, 0)], [(0, 0, 0), (1, 120, 0)], [(1, 7, 0, 0, 7, 0), (1, 10, 0, -2147483648, 2147483647, 0), (1, 13, 0, 0, 19, 0), (1, 3, 0, 0, 19, 0), (2, 3, 13, 1, 0, 0)], 0, 0), (17, [(28, 13, 20, 0)])),
  (21, ([(1, 6, 0), (1, 7, 0), (0, 0, 0), (0, 0, 0), (0, 0, 0)], [(0, 0, 0)], [(1, 7, 0, 0, 7, 0), (1, 10, 0, -2147483648, 2147483647, 0), (1, 13, 0, 0, 19, 0), (1, 0, 0, 0, 7, 0)], 0, 0), (16, [(28, 13, 20, 0)]))]
def kd_X6_missedBy_49c0cb_2 : List (Nat × sf_D × sf_M) := [(22, ([(1, 6, 0), (1, 7, 0), (0, 0, 0), (0, 0, 0), (0, 0, 0)], [(0, 0, 0), (0, 0, 0)], [(1, 7, 0, 0, 7, 0), (1, 10, 0, -2147483648, 2147483647, 0), (1, 13, 0, 0, 19, 0), (1, 0, 0, 0, 7, 0), (1, 3, 0, 0, 7, 0), (2, 3, 7, 1, 0, 0)], 0, 0), (15, [(28, 13, 20, 0)])),
  (25, ([(1, 6, 0), (1, 7, 0), (0, 0, 0), (0, 0, 0), (0, 0, 0)], [], [(1, 7, 0, 0, 7, 0), (1, 10, 0, -2147483648, 2147483647, 0), (1, 13, 0, 0, 19, 0)], 0, 0), (14, [(28, 13, 20, 0)])),
  (26, ([(1, 6, 0), (1, 7, 0), (0, 0, 0), (0, 0, 0), (0, 0, 0)], [(1, 6, 0)], [(1, 7, 0, 0, 7, 0), (1, 10, 0, -2147483648, 2147483647, 0), (1, 13, 0, 0, 19, 0)], 0, 0), (13, [(28, 13, 20, 0)])),
  (27, ([(1, 6, 0), (1, 7, 0), (0, 0, 0), (0, 0, 0), (0, 0, 0)], [(1, 7, 0), (1, 6, 0)], [(1, 7, 0, 0, 7, 0), (1, 10, 0, -2147483648, 2147483647, 0), (1, 13, 0, 0, 19, 0)], 0, 0), (12, [(28, 13, 20, 0)])),
  (29, ([(1, 6, 0), (1, 7, 0), (0, 0, 0), (0, 0, 0), (0, 0, 0)], [(0, 0, 0), (1, 7, 0), (1, 6, 0)], [(1, 7, 0, 0, 7, 0), (1, 10, 0, -2147483648, 2147483647, 0), (1, 13, 0, 0, 19, 0), (1, 6, 0, 0, 19, 0), (2, 6, 13, 1, 0, 0)], 0, 0), (11, [(28, 13, 20, 0)])),
  (32, ([(1, 6, 0), (1, 7, 0), (0, 0, 0), (0, 0, 0), (0, 0, 0)], [(0, 0, 0)], [(1, 7, 0, 0, 7, 0), (1, 10, 0, -2147483648, 2147483647, 0), (1, 13, 0, 0, 19, 0), (1, 0, 0, 0, 1, 0)], 0, 0), (10, [(28, 13, 20, 0)]))]
def kd_X6_missedBy_49c0cb_3 : List (Nat × sf_D × sf_M) := [(35, ([(1, 6, 0), (1, 7, 0), (0, 0, 0), (0, 0, 0), (0, 0, 0)], [], [(1, 7, 0, 0, 7, 0), (1, 10, 0, -2147483648, 2147483647, 0), (1, 13, 0, 0, 19, 0)], 0, 0), (9, [(28, 13, 20, 0)])),
  (36, ([(1, 6, 0), (1, 7, 0), (0, 0, 0), (0, 0, 0), (0, 0, 0)], [(0, 0, 0)], [(1, 7, 0, 0, 7, 0), (1, 10, 0, -2147483648, 2147483647, 0), (1, 13, 0, 0, 19, 0), (1, 0, 0, -2147483648, 2147483647, 0), (2, 0, 10, 1, 0, 0)], 0, 0), (8, [(28, 13, 20, 0)])),
  (37, ([(1, 6, 0), (1, 7, 0), (0, 0, 0), (0, 0, 0), (0, 0, 0)], [(0, 0, 0), (0, 0, 0)], [(1, 7, 0, 0, 7, 0), (1, 10, 0, -2147483648, 2147483647, 0), (1, 13, 0, 0, 19, 0), (1, 0, 0, -2147483648, 2147483647, 0), (1, 3, 0, 1, 1, 0), (2, 0, 10, 1, 0, 0)], 0, 0), (7, [(28, 13, 20, 0)])),
  (38, ([(1, 6, 0), (1, 7, 0), (0, 0, 0), (0, 0, 0), (0, 0, 0)], [(1, 7, 0), (0, 0, 0), (0, 0, 0)], [(1, 7, 0, 0, 7, 0), (1, 10, 0, -2147483648, 2147483647, 0), (1, 13, 0, 0, 19, 0), (1, 0, 0, -2147483648, 2147483647, 0), (1, 3, 0, 1, 1, 0), (2, 0, 10, 1, 0, 0)], 0, 0), (6, [(28, 13, 20, 0)])),
  (41, ([(1, 6, 0), (1, 7, 0), (0, 0, 0), (0, 0, 0), (0, 0, 0)], [(1, 121, 0), (0, 0, 0), (0, 0, 0)], [(1, 7, 0, 0, 7, 0), (1, 10, 0, -2147483648, 2147483647, 0), (1, 13, 0, 0, 19, 0), (1, 0, 0, -2147483648, 2147483647, 0), (1, 3, 0, 1, 1, 0), (2, 0, 10, 1, 0, 0)], 0, 0), (5, [(28, 13, 20, 0)]))]
def kd_X6_missedBy_49c0cb_4 : List (Nat × sf_D × sf_M) := [(43, ([(1, 6, 0), (1, 7, 0), (0, 0, 0), (0, 0, 0), (0, 0, 0)], [(0, 0, 0), (1, 121, 0), (0, 0, 0), (0, 0, 0)], [(1, 7, 0, 0, 7, 0), (1, 10, 0, -2147483648, 2147483647, 0), (1, 13, 0, 0, 19, 0), (1, 0, 0, -2147483648, 2147483647, 0), (1, 3, 0, 1, 1, 0), (1, 9, 0, 0, 19, 0), (2, 0, 10, 1, 0, 0), (2, 9, 13, 1, 0, 0)], 0, 0), (4, [(28, 13, 20, 0)])),
  (44, ([(1, 6, 0), (1, 7, 0), (0, 0, 0), (0, 0, 0), (0, 0, 0)], [(0, 0, 0), (0, 0, 0), (0, 0, 0)], [(1, 7, 0, 0, 7, 0), (1, 10, 0, -2147483648, 2147483647, 0), (1, 13, 0, 0, 19, 0), (1, 0, 0, -2147483648, 2147483647, 0), (1, 3, 0, 1, 1, 0), (1, 6, 0, 0, 7, 0), (2, 0, 10, 1, 0, 0)], 0, 0), (3, [(28, 13, 20, 0)])),
  (45, ([(1, 6, 0), (1, 7, 0), (0, 0, 0), (0, 0, 0), (0, 0, 0)], [(0, 0, 0), (0, 0, 0)], [(1, 7, 0, 0, 7, 0), (1, 10, 0, -2147483648, 2147483647, 0), (1, 13, 0, 0, 19, 0), (1, 0, 0, -2147483648, 2147483647, 0), (1, 3, 0, -2147483648, 2147483647, 0), (2, 0, 10, 1, 0, 0)], 0, 0), (2, [(28, 13, 20, 0)])),
  (46, ([(1, 6, 0), (1, 7, 0), (0, 0, 0), (0, 0, 0), (0, 0, 0)], [(0, 0, 0)], [(1, 7, 0, 0, 7, 0), (1, 10, 0, -2147483648, 2147483647, 0), (1, 13, 0, 0, 19, 0), (1, 0, 0, -2147483648, 2147483647, 0)], 0, 0), (1, [(28, 13, 20, 0)])),
  (47, ([(1, 6, 0), (1, 7, 0), (0, 0, 0), (0, 0, 0), (0, 0, 0)], [], [(1, 7, 0, 0, 7, 0), (1, 10, 0, -2147483648, 2147483647, 0), (1, 13, 0, 0, 19, 0)], 0, 0), (0, [(28, 13, 20, 0)]))]
def kd_X6_missedBy_49c0cb_5 : List (Nat × sf_D × sf_M) := [(50, ([(1, 6, 0), (1, 7, 0), (0, 0, 0), (0, 0, 0), (0, 0, 0)], [], [(1, 7, 0, 0, 7, 0), (1, 10, 0, -2147483648, 2147483647, 0), (1, 13, 0, 1, 20, 0)], 0, 0), (25, [(28, 13, 20, 0)])),
  (53, ([(1, 6, 0), (1, 7, 0), (0, 0, 0), (0, 0, 0), (0, 0, 0)], [], [(1, 7, 0, 0, 7, 0), (1, 10, 0, -2147483648, 2147483647, 0), (1, 13, 0, 0, 20, 0)], 0, 0), (1, [])),
  (54, ([(1, 6, 0), (1, 7, 0), (0, 0, 0), (0, 0, 0), (0, 0, 0)], [(0, 0, 0)], [(1, 7, 0, 0, 7, 0), (1, 10, 0, -2147483648, 2147483647, 0), (1, 13, 0, 0, 20, 0), (1, 0, 0, -2147483648, 2147483647, 0), (2, 0, 10, 1, 0, 0)], 0, 0), (0, []))]
def kd_X6_missedBy_49c0cb : List (Nat × sf_D × sf_M) := kd_X6_missedBy_49c0cb_0 ++ (kd_X6_missedBy_49c0cb_1 ++ (kd_X6_missedBy_49c0cb_2 ++ (kd_X6_missedBy_49c0cb_3 ++ (kd_X6_missedBy_49c0cb_4 ++ (kd_X6_missedBy_49c0cb_5)))))
set_option maxRecDepth 100000 in
theorem kt_X6_missedBy_49c0cb : sf_chk [kq_X6_isFelt_c5165c] kq_X6_missedBy_49c0cb 5 kc_X6_missedBy_49c0cb kd_X6_missedBy_49c0cb = true := by decide +kernel
set_option maxRecDepth 100000 in
theorem kl_X6_missedBy_49c0cb : (kc_X6_missedBy_49c0cb).map (fun c => (c.1, sf_den ([Z_X6_isFelt] : List sf_X) c.2)) = L_X6_missedBy Z_X6_isFelt := rfl
theorem ct_X6_missedBy_49c0cb : sf_ct kq_X6_missedBy_49c0cb Z_X6_missedBy := by
  have h := sf_meth (K := [kq_X6_isFelt_c5165c]) (E := [Z_X6_isFelt]) (k := kq_X6_missedBy_49c0cb) (nL := 5) (C := kc_X6_missedBy_49c0cb) (D := kd_X6_missedBy_49c0cb) (fun m k hk => match m, hk with
    | 0, hk => (Option.some.inj hk) ▸ ct_X6_isFelt_c5165c
    | _ + 1, hk => (by cases hk)) kt_X6_missedBy_49c0cb
  rw [kl_X6_missedBy_49c0cb] at h
  exact h
set_option maxRecDepth 100000 in
set_option maxHeartbeats 4000000 in
theorem xm_man (t : Nat → Nat) (hp : ab_H) (x1 x2 : Int32) (H : sf_h t hp) : ∃ (o : ab_O), Z_X10_man [.ref 0, .int x1, .int x2] hp = some o ∧ ∃ t', sf_h t' o.2 ∧ sf_fr [] t hp t' o.2 ∧ (o.1 = some (.retAddr 99) ∨ ∃ z : Int32, o.1 = some (.int z)) := by
  have rg1 := n_range x1
  have rg2 := n_range x2
  have F0 : sf_fr [] t hp t hp := sf_fr_rf
  refine ab_X_ev (L := (L_X10_man Z_X10_isMan Z_X6_missersOf Z_X6_missedBy Z_X6_isAlive)) (nL := 3) (Nat.le_of_ble_eq_true rfl) ?_
  obtain ⟨Q, hQ⟩ : ∃ Q : ab_O → Prop, Q = (fun o => ∃ t', sf_h t' o.2 ∧ sf_fr [] t hp t' o.2 ∧ (o.1 = some (.retAddr 99) ∨ ∃ z : Int32, o.1 = some (.int z))) := ⟨_, rfl⟩
  rw [← hQ]
  refine (show Ev (ab_T (L_X10_man Z_X10_isMan Z_X6_missersOf Z_X6_missedBy Z_X6_isAlive)) 0 ([some (.ref 0), some (.int x1), some (.int x2)], [], (0, 0), hp) Q from ?_)
  refine Ev.step (j := 1) (s' := ([some (.ref 0), some (.int x1), some (.int x2)], [.ref 0], (0, 0), hp)) rfl rfl ?_
  refine Ev.step (j := 2) (s' := ([some (.ref 0), some (.int x1), some (.int x2)], [.int x1, .ref 0], (0, 0), hp)) rfl rfl ?_
  exact by
   refine Ev.inl (L := L_X10_isMan) (nL := 2) rfl (bs_rcv (g := 10) H (bs_R.uq H (g := 10) rfl) (by decide) rfl) rfl (Nat.le_of_ble_eq_true rfl) ?_
   generalize hQ1 : (fun (o : ab_O) => Ev _ _ _ _) = Q1
   refine (show Ev (ab_T L_X10_isMan) 0 ([some (.ref 0), some (.int x1)], [], (0, 0), hp) Q1 from ?_)
   refine Ev.step (j := 1) (s' := ([some (.ref 0), some (.int x1)], [.int x1], (0, 0), hp)) rfl rfl ?_
   refine bs_iflt rfl (fun c2 => ?_) (fun c2 => ?_)
   · skip
     refine bs_lit (k := 0) rfl rfl fun z3 hz3 => ?_
     refine bs_zret rfl rfl (by omega) (by omega) ?_
     rw [← hQ1]
     refine (show Ev _ 5 ([some (.ref 0), some (.int x1), some (.int x2)], [.int z3], (0, 0), hp) _ from ?_)
     refine bs_ifne rfl (fun c4 => ?_) (fun c4 => ?_)
     · exfalso; omega
     · skip
       exact Ev.ret rfl rfl (by rw [hQ]; exact ⟨t, H, F0, Or.inl rfl⟩)
   · skip
     refine Ev.step (j := 5) (s' := ([some (.ref 0), some (.int x1)], [.int x1], (0, 0), hp)) rfl rfl ?_
     exact by
      refine Ev.step (j := 6) (s' := ([some (.ref 0), some (.int x1)], [.ref 0, .int x1], (0, 0), hp)) rfl rfl ?_
      refine bs_getR (g := 10) (g1 := 7) rfl rfl H (bs_R.uq H (g := 10) rfl) (by decide) rfl fun b5 qb5 rb5 => ?_
      refine bs_getI 7 rfl rfl rfl H rb5 (by decide) rfl fun z6 hz6 lz6 gz6 => ?_
      refine bs_ge rfl (fun c7 => ?_) (fun c7 => ?_)
      · skip
        refine bs_lit (k := 0) rfl rfl fun z8 hz8 => ?_
        refine bs_zret rfl rfl (by omega) (by omega) ?_
        rw [← hQ1]
        refine (show Ev _ 5 ([some (.ref 0), some (.int x1), some (.int x2)], [.int z8], (0, 0), hp) _ from ?_)
        refine bs_ifne rfl (fun c9 => ?_) (fun c9 => ?_)
        · exfalso; omega
        · skip
          exact Ev.ret rfl rfl (by rw [hQ]; exact ⟨t, H, F0, Or.inl rfl⟩)
      · skip
        refine bs_lit (k := 1) rfl rfl fun z10 hz10 => ?_
        exact by
         refine Ev.step (j := 20) (s' := ([some (.ref 0), some (.int x1)], [.int z10], (0, 0), hp)) rfl rfl ?_
         refine bs_zret rfl rfl (by omega) (by omega) ?_
         rw [← hQ1]
         refine (show Ev _ 5 ([some (.ref 0), some (.int x1), some (.int x2)], [.int z10], (0, 0), hp) _ from ?_)
         refine bs_ifne rfl (fun c11 => ?_) (fun c11 => ?_)
         · skip
           refine Ev.step (j := 19) (s' := ([some (.ref 0), some (.int x1), some (.int x2)], [.int x2], (0, 0), hp)) rfl rfl ?_
           rcases (show x2.toInt = 0 ∨ x2.toInt = 1 ∨ x2.toInt = 2 ∨ x2.toInt = 3 ∨ x2.toInt = 4 ∨ (x2.toInt < 0 ∨ 5 ≤ x2.toInt) by omega) with c12 | c12 | c12 | c12 | c12 | c12
           · refine bs_tab 0 rfl (by omega) rfl ?_
             refine Ev.step (j := 53) (s' := ([some (.ref 0), some (.int x1), some (.int x2)], [.ref 0], (0, 0), hp)) rfl rfl ?_
             refine bs_getU (g := 10) (g1 := 6) rfl rfl H (bs_R.uq H (g := 10) rfl) (by decide) rfl rfl ?_
             refine bs_getU (g := 6) (g1 := 153) rfl rfl H (bs_R.uq H (g := 6) rfl) (by decide) rfl rfl ?_
             exact by
              refine Ev.step (j := 60) (s' := ([some (.ref 0), some (.int x1), some (.int x2)], [.int x1, .ref 17], (0, 0), hp)) rfl rfl ?_
              refine bs_ld (g := 153) 0 7 (-2147483648, 2147483647) rfl H (bs_R.uq H (g := 153) rfl) (by decide) rfl (by decide) (by decide) rfl (by decide) (by omega) (by omega) fun z13 hz13 lz13 gz13 => ?_
              dsimp only at lz13 gz13
              exact Ev.ret rfl rfl (by rw [hQ]; exact ⟨t, H, F0, Or.inr ⟨_, rfl⟩⟩)
           · refine bs_tab 1 rfl (by omega) rfl ?_
             refine Ev.step (j := 63) (s' := ([some (.ref 0), some (.int x1), some (.int x2)], [.ref 0], (0, 0), hp)) rfl rfl ?_
             exact by
              refine bs_getU (g := 10) (g1 := 6) rfl rfl H (bs_R.uq H (g := 10) rfl) (by decide) rfl rfl ?_
              refine Ev.step (j := 67) (s' := ([some (.ref 0), some (.int x1), some (.int x2)], [.ref 0, .ref 12], (0, 0), hp)) rfl rfl ?_
              refine bs_getR (g := 10) (g1 := 7) rfl rfl H (bs_R.uq H (g := 10) rfl) (by decide) rfl fun b14 qb14 rb14 => ?_
              refine Ev.step (j := 71) (s' := ([some (.ref 0), some (.int x1), some (.int x2)], [.int x1, .ref b14, .ref 12], (0, 0), hp)) rfl rfl ?_
              refine bs_call (K := kq_X6_missersOf_49c0cb) [.ref 12, .ref b14, .int x1] [] rfl ct_X6_missersOf_49c0cb H rfl rfl rfl (bs_rcv (g := 6) H (bs_R.uq H (g := 6) rfl) (by decide) rfl) rfl ?_ (sf_S_cons (sf_s1 (x := x1.toInt) rfl (by omega) (by omega)) (sf_S_nil)) fun r15 hp16 thp16 Hhp16 fhp16 ahp16 php16 => ?_
              · intro q k h
                match q, h with
                | 0, h => cases h; exact bs_jR (bs_R.uq H (g := 6) rfl)
                | 1, h => cases h; exact bs_jR rb14
                | 2, h => cases h; exact sf_j0
                | q + 3, h => cases h
              obtain ⟨z17, rfl⟩ := bs_anI ahp16
              have rgz17 := n_range z17
              have Fhp16 := sf_fr_tr F0 (sf_fr_wider (W := []) rfl fhp16)
              have h18 : sf_rd hp16 b5 9 = some z6.toInt := (fhp16.2.2.1 _ rb5.1 _ (by rw [rb5.2]; rfl)).trans hz6
              have r19 := rb5.fr fhp16
              have r20 := rb14.fr fhp16
              refine (show Ev _ 74 ([some (.ref 0), some (.int x1), some (.int x2)], [.int z17], (0, 0), hp16) _ from ?_)
              exact Ev.ret rfl rfl (by rw [hQ]; exact ⟨thp16, Hhp16, Fhp16, Or.inr ⟨_, rfl⟩⟩)
           · refine bs_tab 2 rfl (by omega) rfl ?_
             refine Ev.step (j := 76) (s' := ([some (.ref 0), some (.int x1), some (.int x2)], [.ref 0], (0, 0), hp)) rfl rfl ?_
             exact by
              refine bs_getU (g := 10) (g1 := 6) rfl rfl H (bs_R.uq H (g := 10) rfl) (by decide) rfl rfl ?_
              refine Ev.step (j := 80) (s' := ([some (.ref 0), some (.int x1), some (.int x2)], [.ref 0, .ref 12], (0, 0), hp)) rfl rfl ?_
              refine bs_getR (g := 10) (g1 := 7) rfl rfl H (bs_R.uq H (g := 10) rfl) (by decide) rfl fun b21 qb21 rb21 => ?_
              refine Ev.step (j := 84) (s' := ([some (.ref 0), some (.int x1), some (.int x2)], [.int x1, .ref b21, .ref 12], (0, 0), hp)) rfl rfl ?_
              refine bs_call (K := kq_X6_missedBy_49c0cb) [.ref 12, .ref b21, .int x1] [] rfl ct_X6_missedBy_49c0cb H rfl rfl rfl (bs_rcv (g := 6) H (bs_R.uq H (g := 6) rfl) (by decide) rfl) rfl ?_ (sf_S_cons (sf_s1 (x := x1.toInt) rfl (by omega) (by omega)) (sf_S_nil)) fun r22 hp23 thp23 Hhp23 fhp23 ahp23 php23 => ?_
              · intro q k h
                match q, h with
                | 0, h => cases h; exact bs_jR (bs_R.uq H (g := 6) rfl)
                | 1, h => cases h; exact bs_jR rb21
                | 2, h => cases h; exact sf_j0
                | q + 3, h => cases h
              obtain ⟨z24, rfl⟩ := bs_anI ahp23
              have rgz24 := n_range z24
              have Fhp23 := sf_fr_tr F0 (sf_fr_wider (W := []) rfl fhp23)
              have h25 : sf_rd hp23 b5 9 = some z6.toInt := (fhp23.2.2.1 _ rb5.1 _ (by rw [rb5.2]; rfl)).trans hz6
              have r26 := rb5.fr fhp23
              have r27 := rb21.fr fhp23
              refine (show Ev _ 87 ([some (.ref 0), some (.int x1), some (.int x2)], [.int z24], (0, 0), hp23) _ from ?_)
              exact Ev.ret rfl rfl (by rw [hQ]; exact ⟨thp23, Hhp23, Fhp23, Or.inr ⟨_, rfl⟩⟩)
           · refine bs_tab 3 rfl (by omega) rfl ?_
             refine Ev.step (j := 89) (s' := ([some (.ref 0), some (.int x1), some (.int x2)], [.ref 0], (0, 0), hp)) rfl rfl ?_
             exact by
              refine bs_getU (g := 10) (g1 := 6) rfl rfl H (bs_R.uq H (g := 10) rfl) (by decide) rfl rfl ?_
              refine bs_getU (g := 6) (g1 := 154) rfl rfl H (bs_R.uq H (g := 6) rfl) (by decide) rfl rfl ?_
              refine Ev.step (j := 96) (s' := ([some (.ref 0), some (.int x1), some (.int x2)], [.int x1, .ref 18], (0, 0), hp)) rfl rfl ?_
              refine bs_ld (g := 154) 0 7 (-2147483648, 2147483647) rfl H (bs_R.uq H (g := 154) rfl) (by decide) rfl (by decide) (by decide) rfl (by decide) (by omega) (by omega) fun z28 hz28 lz28 gz28 => ?_
              dsimp only at lz28 gz28
              exact Ev.ret rfl rfl (by rw [hQ]; exact ⟨t, H, F0, Or.inr ⟨_, rfl⟩⟩)
           · refine bs_tab 4 rfl (by omega) rfl ?_
             refine Ev.step (j := 99) (s' := ([some (.ref 0), some (.int x1), some (.int x2)], [.ref 0], (0, 0), hp)) rfl rfl ?_
             exact by
              refine bs_getU (g := 10) (g1 := 6) rfl rfl H (bs_R.uq H (g := 10) rfl) (by decide) rfl rfl ?_
              refine Ev.step (j := 103) (s' := ([some (.ref 0), some (.int x1), some (.int x2)], [.int x1, .ref 12], (0, 0), hp)) rfl rfl ?_
              refine bs_call (K := kq_X6_isAlive_a7a9b3) [.ref 12, .int x1] [] rfl ct_X6_isAlive_a7a9b3 H rfl rfl rfl (bs_rcv (g := 6) H (bs_R.uq H (g := 6) rfl) (by decide) rfl) rfl ?_ (sf_S_cons (sf_s1 (x := x1.toInt) rfl (by omega) (by omega)) (sf_S_nil)) fun r29 hp30 thp30 Hhp30 fhp30 ahp30 php30 => ?_
              · intro q k h
                match q, h with
                | 0, h => cases h; exact bs_jR (bs_R.uq H (g := 6) rfl)
                | 1, h => cases h; exact sf_j0
                | q + 2, h => cases h
              obtain ⟨z31, rfl⟩ := bs_anI ahp30
              have rgz31 := n_range z31
              have Fhp30 := sf_fr_tr F0 (sf_fr_wider (W := []) rfl fhp30)
              have h32 : sf_rd hp30 b5 9 = some z6.toInt := (fhp30.2.2.1 _ rb5.1 _ (by rw [rb5.2]; rfl)).trans hz6
              obtain ⟨uz31, vz31⟩ := bs_s1 (x := z31.toInt) rfl (php30 _ (List.mem_of_getElem? (i := 0) rfl))
              have r33 := rb5.fr fhp30
              refine (show Ev _ 106 ([some (.ref 0), some (.int x1), some (.int x2)], [.int z31], (0, 0), hp30) _ from ?_)
              exact by
               refine bs_ifeq rfl (fun c34 => ?_) (fun c34 => ?_)
               · skip
                 have c35 : z31.toInt = 0 := by omega
                 refine bs_lit (k := 0) rfl rfl fun z36 hz36 => ?_
                 exact Ev.ret rfl rfl (by rw [hQ]; exact ⟨thp30, Hhp30, Fhp30, Or.inr ⟨_, rfl⟩⟩)
               · skip
                 refine bs_lit (k := 1) rfl rfl fun z37 hz37 => ?_
                 refine Ev.step (j := 114) (s' := ([some (.ref 0), some (.int x1), some (.int x2)], [.int z37], (0, 0), hp30)) rfl rfl ?_
                 exact Ev.ret rfl rfl (by rw [hQ]; exact ⟨thp30, Hhp30, Fhp30, Or.inr ⟨_, rfl⟩⟩)
           · refine bs_tabD rfl (by show _ ∨ _ + ((5 : Nat) : Int) ≤ _; omega) ?_
             exact Ev.ret rfl rfl (by rw [hQ]; exact ⟨t, H, F0, Or.inl rfl⟩)
         · exfalso; omega
theorem push12 {t : Nat → Nat} {hp : ab_H} (H : sf_h t hp) : ∃ t', sf_h t' (ab_push hp (.inr (12, []))) ∧ sf_fr [] t hp t' (ab_push hp (.inr (12, []))) := by
  have h := al_ok (gs := [12]) (cs := [.inr (12, [])]) H rfl (fun d c g hc hg => by
    match d, hc, hg with
    | 0, hc, hg =>
      cases hc
      cases hg
      refine ⟨⟨rfl, by decide, fun i k h => ?_⟩, rfl⟩
      have h' : ([] : List sf_K)[i]? = some k := h
      simp at h'
    | d + 1, hc, hg => cases hc) (fun d hd => by
    match d, hd with
    | 0, hd => cases hd
    | d + 1, hd => cases hd)
  rw [← al_new] at h
  exact ⟨_, h.1, h.2⟩
def kq_L_man : sf_Q := ([(1, 10, 0), (0, 0, 0), (0, 0, 0), (1, 148, 0)], [], some (0, 0, 0), [], [(148, 0, 0)])
set_option maxRecDepth 100000 in
theorem ct_L_man : sf_ct kq_L_man Z_L_man := by
  intro t hp as H hl hj hpre
  match as, hl with
  | [v0, v1, v2, v3], _ =>
    obtain ⟨a0, rfl, ra0⟩ := bs_aR (hj 0 _ rfl)
    obtain rfl := ra0.eq H (p := 0) rfl
    obtain ⟨x1, rfl⟩ := bs_aI (hj 1 _ rfl)
    obtain ⟨x2, rfl⟩ := bs_aI (hj 2 _ rfl)
    obtain ⟨a3, rfl, ra3⟩ := bs_aR (hj 3 _ rfl)
    obtain rfl := ra3.eq H (p := 87) rfl
    obtain ⟨⟨r, hp1⟩, hX, t1, H1, f1, hr⟩ := xm_man t hp x1 x2 H
    have hrc : ab_rcv 10 [.ref 0, .int x1, .int x2] hp = true := bs_rcv (g := 10) H (bs_R.uq H (g := 10) rfl) (by decide) rfl
    refine bs_fin (K := kq_L_man) (L := (L_L_man Z_X10_man)) (nL := 5) (Nat.le_of_ble_eq_true rfl) ?_
    obtain ⟨Q, hQ⟩ : ∃ Q : ab_O → Prop, Q = (fun o => ∃ t', sf_h t' o.2 ∧ sf_fr (kq_L_man).2.2.2.2 t hp t' o.2 ∧ sf_an t' o.2.1 (kq_L_man).2.2.1 o.1 ∧ sf_S (sf_v1 o.1 [.ref 0, .int x1, .int x2, .ref 87] o.2) (kq_L_man).2.2.2.1) := ⟨_, rfl⟩
    rw [← hQ]
    refine (show Ev (ab_T (L_L_man Z_X10_man)) 0 ([some (.ref 0), some (.int x1), some (.int x2), some (.ref 87), none], [], (0, 0), hp) Q from ?_)
    exact by
     refine Ev.step (j := 1) (s' := ([some (.ref 0), some (.int x1), some (.int x2), some (.ref 87), none], [.ref 87], (0, 0), hp)) rfl rfl ?_
     refine bs_lit (k := 0) rfl rfl fun z0 hz0 => ?_
     refine Ev.step (j := 3) (s' := ([some (.ref 0), some (.int x1), some (.int x2), some (.ref 87), none], [.ref 0, .int z0, .ref 87], (0, 0), hp)) rfl rfl ?_
     refine Ev.step (j := 4) (s' := ([some (.ref 0), some (.int x1), some (.int x2), some (.ref 87), none], [.int x1, .ref 0, .int z0, .ref 87], (0, 0), hp)) rfl rfl ?_
     refine Ev.step (j := 5) (s' := ([some (.ref 0), some (.int x1), some (.int x2), some (.ref 87), none], [.int x2, .int x1, .ref 0, .int z0, .ref 87], (0, 0), hp)) rfl rfl ?_
     have e : Z_X10_man ([.int x2, .int x1, .ref 0, .int z0, .ref 87].take 3).reverse hp = some (r, hp1) := hX
     have e2 : ab_rcv 10 ([.int x2, .int x1, .ref 0, .int z0, .ref 87].take 3).reverse hp = true := hrc
     rcases hr with hr | ⟨z, hr⟩
     · have hr' : r = some (.retAddr 99) := hr
       subst hr'
       refine Ev.step (j := 15) (s' := ([some (.ref 0), some (.int x1), some (.int x2), some (.ref 87), none], [], (1, 6), ab_push hp1 (.inr (12, [])))) rfl ?_ ?_
       · simp only [ab_callX]
         rw [e, e2]
         rfl
       · obtain ⟨t2, H2, f2⟩ := push12 H1
         refine bs_lit (k := 1) rfl rfl fun z1 hz1 => ?_
         exact Ev.ret rfl rfl (by rw [hQ]; exact ⟨t2, H2, sf_fr_tr (sf_fr_wider (W := [(148, 0, 0)]) rfl f1) (sf_fr_wider (W := [(148, 0, 0)]) rfl f2), bs_an0, sf_S_nil⟩)
     · have hr' : r = some (.int z) := hr
       subst hr'
       refine Ev.step (j := 8) (s' := ([some (.ref 0), some (.int x1), some (.int x2), some (.ref 87), none], [.int z, .int z0, .ref 87], (1, 6), hp1)) rfl ?_ ?_
       · simp only [ab_callX]
         rw [e, e2]
         dsimp only
         rw [decide_eq_false (show ¬ (some (Value.int z) = some (Value.retAddr 99)) from fun h => by cases h)]
         rfl
       · refine bs_L rfl rfl fun w => ?_
         refine bs_last (W := [(148, 0, 0)]) (g := 148) rfl H1 (bs_R.uq H1 (g := 148) rfl) (by decide) rfl rfl (by omega) (by show _ < ((1 : Nat) : Int); omega) fun hp2 H2 f2 e3 q2 n2 => ?_
         exact by
          refine Ev.step (j := 17) (s' := ([some (.ref 0), some (.int x1), some (.int x2), some (.ref 87), none], [], (1, 6), hp2)) rfl rfl ?_
          refine bs_lit (k := 0) rfl rfl fun z1 hz1 => ?_
          exact Ev.ret rfl rfl (by rw [hQ]; exact ⟨t1, H2, sf_fr_tr (sf_fr_wider (W := [(148, 0, 0)]) rfl f1) f2, bs_an0, sf_S_nil⟩)
end
-- 63.b17.lean.txt
section
def kq_X9_clear_eafd3e : sf_Q := ([(1, 9, 0)], [], none, [(1, 30011, 0, 0, 0, 0), (1, 30014, 0, 0, 0, 0), (1, 30029, 0, 0, 0, 0)], [(9, 3, 4), (9, 9, 9)])
def kc_X9_clear_eafd3e : List (Nat × sf_I) := [(0, 4, [1, 0]),
  (1, 0, [2, 0]),
  (2, 24, [5, 9, 3, 0]),
  (5, 4, [6, 0]),
  (6, 0, [7, 0]),
  (7, 24, [10, 9, 4, 0]),
  (10, 4, [11, 0]),
  (11, 0, [12, 0]),
  (12, 24, [15, 9, 9, 0]),
  (15, 37, [0, 0])]
def kd_X9_clear_eafd3e : List (Nat × sf_D × sf_M) := [(0, ([(1, 9, 0)], [], [], 0, 0), (9, [])),
  (1, ([(1, 9, 0)], [(1, 9, 0)], [], 0, 0), (8, [])),
  (2, ([(1, 9, 0)], [(0, 0, 0), (1, 9, 0)], [(1, 3, 0, 0, 0, 0)], 0, 0), (7, [])),
  (5, ([(1, 9, 0)], [], [(1, 30011, 0, 0, 0, 0)], 0, 0), (6, [])),
  (6, ([(1, 9, 0)], [(1, 9, 0)], [(1, 30011, 0, 0, 0, 0)], 0, 0), (5, [])),
  (7, ([(1, 9, 0)], [(0, 0, 0), (1, 9, 0)], [(1, 30011, 0, 0, 0, 0), (1, 3, 0, 0, 0, 0)], 0, 0), (4, [])),
  (10, ([(1, 9, 0)], [], [(1, 30011, 0, 0, 0, 0), (1, 30014, 0, 0, 0, 0)], 0, 0), (3, [])),
  (11, ([(1, 9, 0)], [(1, 9, 0)], [(1, 30011, 0, 0, 0, 0), (1, 30014, 0, 0, 0, 0)], 0, 0), (2, [])),
  (12, ([(1, 9, 0)], [(0, 0, 0), (1, 9, 0)], [(1, 30011, 0, 0, 0, 0), (1, 30014, 0, 0, 0, 0), (1, 3, 0, 0, 0, 0)], 0, 0), (1, [])),
  (15, ([(1, 9, 0)], [], [(1, 30011, 0, 0, 0, 0), (1, 30014, 0, 0, 0, 0), (1, 30029, 0, 0, 0, 0)], 0, 0), (0, []))]
set_option maxRecDepth 100000 in
theorem kt_X9_clear_eafd3e : sf_chk [] kq_X9_clear_eafd3e 1 kc_X9_clear_eafd3e kd_X9_clear_eafd3e = true := by decide +kernel
set_option maxRecDepth 100000 in
theorem kl_X9_clear_eafd3e : (kc_X9_clear_eafd3e).map (fun c => (c.1, sf_den ([] : List sf_X) c.2)) = L_X9_clear := rfl
theorem ct_X9_clear_eafd3e : sf_ct kq_X9_clear_eafd3e Z_X9_clear := by
  have h := sf_meth (K := []) (E := []) (k := kq_X9_clear_eafd3e) (nL := 1) (C := kc_X9_clear_eafd3e) (D := kd_X9_clear_eafd3e) (fun m k hk => match m, hk with
    | _ + 0, hk => (by cases hk)) kt_X9_clear_eafd3e
  rw [kl_X9_clear_eafd3e] at h
  exact h
def kq_X8_valueAt_f363ad : sf_Q := ([(1, 8, 0), (0, 0, 0)], [(1, 3, 0, 0, 939, 0)], some (0, 0, 0), [(1, 0, 0, 0, 255, 0)], [])
def kc_X8_valueAt_f363ad : List (Nat × sf_I) := [(0, 2, [1, 1]),
  (1, 20, [4, 24, 2]),
  (4, 2, [5, 1]),
  (5, 0, [8, 940]),
  (8, 21, [11, 24, 5]),
  (11, 4, [12, 0]),
  (12, 23, [15, 8, 0]),
  (15, 2, [16, 1]),
  (16, 25, [17, 0]),
  (17, 0, [20, 255]),
  (20, 9, [21, 3]),
  (21, 22, [25]),
  (24, 0, [25, 0]),
  (25, 35, [0, 0])]
def kd_X8_valueAt_f363ad : List (Nat × sf_D × sf_M) := [(0, ([(1, 8, 0), (0, 0, 0)], [], [(1, 4, 0, 0, 939, 0)], 0, 0), (12, [])),
  (1, ([(1, 8, 0), (0, 0, 0)], [(0, 0, 0)], [(1, 4, 0, 0, 939, 0), (1, 0, 0, 0, 939, 0), (2, 0, 4, 1, 0, 0)], 0, 0), (11, [])),
  (4, ([(1, 8, 0), (0, 0, 0)], [], [(1, 4, 0, 0, 939, 0)], 0, 0), (10, [])),
  (5, ([(1, 8, 0), (0, 0, 0)], [(0, 0, 0)], [(1, 4, 0, 0, 939, 0), (1, 0, 0, 0, 939, 0), (2, 0, 4, 1, 0, 0)], 0, 0), (9, [])),
  (8, ([(1, 8, 0), (0, 0, 0)], [(0, 0, 0), (0, 0, 0)], [(1, 4, 0, 0, 939, 0), (1, 0, 0, 0, 939, 0), (1, 3, 0, 940, 940, 0), (2, 0, 4, 1, 0, 0)], 0, 0), (8, [])),
  (11, ([(1, 8, 0), (0, 0, 0)], [], [(1, 4, 0, 0, 939, 0)], 0, 0), (7, [])),
  (12, ([(1, 8, 0), (0, 0, 0)], [(1, 8, 0)], [(1, 4, 0, 0, 939, 0)], 0, 0), (6, [])),
  (15, ([(1, 8, 0), (0, 0, 0)], [(1, 123, 0)], [(1, 4, 0, 0, 939, 0)], 0, 0), (5, [])),
  (16, ([(1, 8, 0), (0, 0, 0)], [(0, 0, 0), (1, 123, 0)], [(1, 4, 0, 0, 939, 0), (1, 3, 0, 0, 939, 0), (2, 3, 4, 1, 0, 0)], 0, 0), (4, [])),
  (17, ([(1, 8, 0), (0, 0, 0)], [(0, 0, 0)], [(1, 4, 0, 0, 939, 0), (1, 0, 0, -2147483648, 2147483647, 0)], 0, 0), (3, [])),
  (20, ([(1, 8, 0), (0, 0, 0)], [(0, 0, 0), (0, 0, 0)], [(1, 4, 0, 0, 939, 0), (1, 0, 0, -2147483648, 2147483647, 0), (1, 3, 0, 255, 255, 0)], 0, 0), (2, [])),
  (21, ([(1, 8, 0), (0, 0, 0)], [(0, 0, 0)], [(1, 4, 0, 0, 939, 0), (1, 0, 0, 0, 255, 0)], 0, 0), (1, [])),
  (25, ([(1, 8, 0), (0, 0, 0)], [(0, 0, 0)], [(1, 4, 0, 0, 939, 0), (1, 0, 0, 0, 255, 0)], 0, 0), (0, []))]
set_option maxRecDepth 100000 in
theorem kt_X8_valueAt_f363ad : sf_chk [] kq_X8_valueAt_f363ad 2 kc_X8_valueAt_f363ad kd_X8_valueAt_f363ad = true := by decide +kernel
set_option maxRecDepth 100000 in
theorem kl_X8_valueAt_f363ad : (kc_X8_valueAt_f363ad).map (fun c => (c.1, sf_den ([] : List sf_X) c.2)) = L_X8_valueAt := rfl
theorem ct_X8_valueAt_f363ad : sf_ct kq_X8_valueAt_f363ad Z_X8_valueAt := by
  have h := sf_meth (K := []) (E := []) (k := kq_X8_valueAt_f363ad) (nL := 2) (C := kc_X8_valueAt_f363ad) (D := kd_X8_valueAt_f363ad) (fun m k hk => match m, hk with
    | _ + 0, hk => (by cases hk)) kt_X8_valueAt_f363ad
  rw [kl_X8_valueAt_f363ad] at h
  exact h
def kq_X8_skipBlanks_a688e2 : sf_Q := ([(1, 8, 0)], [], none, [], [(8, 2, 2)])
def kc_X8_skipBlanks_a688e2 : List (Nat × sf_I) := [(0, 4, [1, 0]),
  (1, 23, [4, 8, 2]),
  (4, 4, [5, 0]),
  (5, 23, [8, 8, 1]),
  (8, 21, [11, 50, 5]),
  (11, 4, [12, 0]),
  (12, 4, [13, 0]),
  (13, 23, [16, 8, 2]),
  (16, 32, [19, 0, 2, 8, 0, 0, 0, 0]),
  (19, 0, [21, 32]),
  (21, 21, [24, 37, 0]),
  (24, 4, [25, 0]),
  (25, 4, [26, 0]),
  (26, 23, [29, 8, 2]),
  (29, 32, [32, 0, 2, 8, 0, 0, 0, 0]),
  (32, 0, [34, 10]),
  (34, 21, [37, 50, 1]),
  (37, 4, [38, 0]),
  (38, 17, [39]),
  (39, 23, [42, 8, 2]),
  (42, 0, [43, 1]),
  (43, 9, [44, 0]),
  (44, 24, [47, 8, 2, 0]),
  (47, 22, [0]),
  (50, 37, [0, 0])]
def kd_X8_skipBlanks_a688e2_0 : List (Nat × sf_D × sf_M) := [(0, ([(1, 8, 0)], [], [], 0, 0), (22, [(26, 27008, 940, 0)])),
  (1, ([(1, 8, 0)], [(1, 8, 0)], [], 0, 0), (21, [(26, 27008, 940, 0)])),
  (4, ([(1, 8, 0)], [(0, 0, 940)], [(1, 0, 0, 0, 940, 0), (1, 27008, 0, -2147483648, 2147483647, 0), (2, 0, 27008, 1, 0, 0)], 0, 0), (20, [(26, 27008, 940, 0)])),
  (5, ([(1, 8, 0)], [(1, 8, 0), (0, 0, 940)], [(1, 0, 0, 0, 940, 0), (1, 27008, 0, -2147483648, 2147483647, 0), (2, 0, 27008, 1, 0, 0)], 0, 0), (19, [(26, 27008, 940, 0)])),
  (8, ([(1, 8, 0)], [(0, 0, 940), (0, 0, 940)], [(1, 0, 0, 0, 940, 0), (1, 27008, 0, -2147483648, 2147483647, 0), (1, 3, 0, 0, 940, 0), (1, 27005, 0, -2147483648, 2147483647, 0), (2, 0, 27008, 1, 0, 0), (2, 3, 27005, 1, 0, 0)], 0, 0), (18, [(26, 27008, 940, 0)])),
  (11, ([(1, 8, 0)], [], [(1, 27008, 0, 0, 939, 0), (1, 27005, 0, 1, 940, 0)], 0, 0), (17, [(26, 27008, 940, 0)])),
  (12, ([(1, 8, 0)], [(1, 8, 0)], [(1, 27008, 0, 0, 939, 0), (1, 27005, 0, 1, 940, 0)], 0, 0), (16, [(26, 27008, 940, 0)])),
  (13, ([(1, 8, 0)], [(1, 8, 0), (1, 8, 0)], [(1, 27008, 0, 0, 939, 0), (1, 27005, 0, 1, 940, 0)], 0, 0), (15, [(26, 27008, 940, 0)])),
  (16, ([(1, 8, 0)], [(0, 0, 940), (1, 8, 0)], [(1, 27008, 0, 0, 939, 0), (1, 27005, 0, 1, 940, 0), (1, 3, 0, 0, 939, 0), (2, 3, 27008, 1, 0, 0)], 0, 0), (14, [(26, 27008, 940, 0)])),
  (19, ([(1, 8, 0)], [(0, 0, 0)], [(1, 27008, 0, 0, 939, 0), (1, 27005, 0, 1, 940, 0), (1, 0, 0, 0, 255, 0)], 0, 0), (13, [(26, 27008, 940, 0)])),
  (21, ([(1, 8, 0)], [(0, 0, 0), (0, 0, 0)], [(1, 27008, 0, 0, 939, 0), (1, 27005, 0, 1, 940, 0), (1, 0, 0, 0, 255, 0), (1, 3, 0, 32, 32, 0)], 0, 0), (12, [(26, 27008, 940, 0)]))]
def kd_X8_skipBlanks_a688e2_1 : List (Nat × sf_D × sf_M) := [(24, ([(1, 8, 0)], [], [(1, 27008, 0, 0, 939, 0), (1, 27005, 0, 1, 940, 0)], 0, 0), (11, [(26, 27008, 940, 0)])),
  (25, ([(1, 8, 0)], [(1, 8, 0)], [(1, 27008, 0, 0, 939, 0), (1, 27005, 0, 1, 940, 0)], 0, 0), (10, [(26, 27008, 940, 0)])),
  (26, ([(1, 8, 0)], [(1, 8, 0), (1, 8, 0)], [(1, 27008, 0, 0, 939, 0), (1, 27005, 0, 1, 940, 0)], 0, 0), (9, [(26, 27008, 940, 0)])),
  (29, ([(1, 8, 0)], [(0, 0, 940), (1, 8, 0)], [(1, 27008, 0, 0, 939, 0), (1, 27005, 0, 1, 940, 0), (1, 3, 0, 0, 939, 0), (2, 3, 27008, 1, 0, 0)], 0, 0), (8, [(26, 27008, 940, 0)])),
  (32, ([(1, 8, 0)], [(0, 0, 0)], [(1, 27008, 0, 0, 939, 0), (1, 27005, 0, 1, 940, 0), (1, 0, 0, 0, 255, 0)], 0, 0), (7, [(26, 27008, 940, 0)])),
  (34, ([(1, 8, 0)], [(0, 0, 0), (0, 0, 0)], [(1, 27008, 0, 0, 939, 0), (1, 27005, 0, 1, 940, 0), (1, 0, 0, 0, 255, 0), (1, 3, 0, 10, 10, 0)], 0, 0), (6, [(26, 27008, 940, 0)])),
  (37, ([(1, 8, 0)], [], [(1, 27008, 0, 0, 939, 0), (1, 27005, 0, 1, 940, 0)], 0, 0), (5, [(26, 27008, 940, 0)])),
  (38, ([(1, 8, 0)], [(1, 8, 0)], [(1, 27008, 0, 0, 939, 0), (1, 27005, 0, 1, 940, 0)], 0, 0), (4, [(26, 27008, 940, 0)])),
  (39, ([(1, 8, 0)], [(1, 8, 0), (1, 8, 0)], [(1, 27008, 0, 0, 939, 0), (1, 27005, 0, 1, 940, 0)], 0, 0), (3, [(26, 27008, 940, 0)])),
  (42, ([(1, 8, 0)], [(0, 0, 940), (1, 8, 0)], [(1, 27008, 0, 0, 939, 0), (1, 27005, 0, 1, 940, 0), (1, 3, 0, 0, 939, 0), (2, 3, 27008, 1, 0, 0)], 0, 0), (2, [(26, 27008, 940, 0)]))]
def kd_X8_skipBlanks_a688e2_2 : List (Nat × sf_D × sf_M) := [(43, ([(1, 8, 0)], [(0, 0, 0), (0, 0, 940), (1, 8, 0)], [(1, 27008, 0, 0, 939, 0), (1, 27005, 0, 1, 940, 0), (1, 3, 0, 0, 939, 0), (1, 6, 0, 1, 1, 0), (2, 3, 27008, 1, 0, 0)], 0, 0), (1, [(26, 27008, 940, 0)])),
  (44, ([(1, 8, 0)], [(0, 0, 0), (1, 8, 0)], [(1, 27008, 0, 0, 939, 0), (1, 27005, 0, 1, 940, 0), (1, 3, 0, 1, 940, 0), (2, 3, 27008, 1, 1, 0)], 0, 0), (0, [(26, 27008, 940, 0)])),
  (47, ([(1, 8, 0)], [], [(1, 27005, 0, 1, 940, 0), (1, 27008, 0, 1, 940, 0)], 0, 0), (23, [(26, 27008, 940, 0)])),
  (50, ([(1, 8, 0)], [], [(1, 27008, 0, 0, 940, 0), (1, 27005, 0, 0, 940, 0)], 0, 0), (0, []))]
def kd_X8_skipBlanks_a688e2 : List (Nat × sf_D × sf_M) := kd_X8_skipBlanks_a688e2_0 ++ (kd_X8_skipBlanks_a688e2_1 ++ (kd_X8_skipBlanks_a688e2_2))
set_option maxRecDepth 100000 in
theorem kt_X8_skipBlanks_a688e2 : sf_chk [kq_X8_valueAt_f363ad] kq_X8_skipBlanks_a688e2 1 kc_X8_skipBlanks_a688e2 kd_X8_skipBlanks_a688e2 = true := by decide +kernel
set_option maxRecDepth 100000 in
theorem kl_X8_skipBlanks_a688e2 : (kc_X8_skipBlanks_a688e2).map (fun c => (c.1, sf_den ([Z_X8_valueAt] : List sf_X) c.2)) = L_X8_skipBlanks Z_X8_valueAt := rfl
theorem ct_X8_skipBlanks_a688e2 : sf_ct kq_X8_skipBlanks_a688e2 Z_X8_skipBlanks := by
  have h := sf_meth (K := [kq_X8_valueAt_f363ad]) (E := [Z_X8_valueAt]) (k := kq_X8_skipBlanks_a688e2) (nL := 1) (C := kc_X8_skipBlanks_a688e2) (D := kd_X8_skipBlanks_a688e2) (fun m k hk => match m, hk with
    | 0, hk => (Option.some.inj hk) ▸ ct_X8_valueAt_f363ad
    | _ + 1, hk => (by cases hk)) kt_X8_skipBlanks_a688e2
  rw [kl_X8_skipBlanks_a688e2] at h
  exact h
def kq_X8_isLetter_ff66b9 : sf_Q := ([(0, 0, 0)], [(1, 0, 0, 0, 255, 0)], some (0, 0, 0), [(1, 0, 0, 0, 1, 0), (3, 0, 3, 97, 122, 0)], [])
def kc_X8_isLetter_ff66b9 : List (Nat × sf_I) := [(0, 2, [1, 0]),
  (1, 0, [3, 97]),
  (3, 21, [6, 16, 2]),
  (6, 2, [7, 0]),
  (7, 0, [9, 122]),
  (9, 21, [12, 16, 4]),
  (12, 0, [13, 1]),
  (13, 22, [17]),
  (16, 0, [17, 0]),
  (17, 36, [0, 0])]
def kd_X8_isLetter_ff66b9 : List (Nat × sf_D × sf_M) := [(0, ([(0, 0, 0)], [], [(1, 1, 0, 0, 255, 0)], 0, 0), (8, [])),
  (1, ([(0, 0, 0)], [(0, 0, 0)], [(1, 1, 0, 0, 255, 0), (1, 0, 0, 0, 255, 0), (2, 0, 1, 1, 0, 0)], 0, 0), (7, [])),
  (3, ([(0, 0, 0)], [(0, 0, 0), (0, 0, 0)], [(1, 1, 0, 0, 255, 0), (1, 0, 0, 0, 255, 0), (1, 3, 0, 97, 97, 0), (2, 0, 1, 1, 0, 0)], 0, 0), (6, [])),
  (6, ([(0, 0, 0)], [], [(1, 1, 0, 97, 255, 0)], 0, 0), (5, [])),
  (7, ([(0, 0, 0)], [(0, 0, 0)], [(1, 1, 0, 97, 255, 0), (1, 0, 0, 97, 255, 0), (2, 0, 1, 1, 0, 0)], 0, 0), (4, [])),
  (9, ([(0, 0, 0)], [(0, 0, 0), (0, 0, 0)], [(1, 1, 0, 97, 255, 0), (1, 0, 0, 97, 255, 0), (1, 3, 0, 122, 122, 0), (2, 0, 1, 1, 0, 0)], 0, 0), (3, [])),
  (12, ([(0, 0, 0)], [], [(1, 1, 0, 97, 122, 0)], 0, 0), (2, [])),
  (13, ([(0, 0, 0)], [(0, 0, 0)], [(1, 1, 0, 97, 122, 0), (1, 0, 0, 1, 1, 0)], 0, 0), (1, [])),
  (16, ([(0, 0, 0)], [], [(1, 1, 0, 0, 255, 0)], 0, 0), (1, [])),
  (17, ([(0, 0, 0)], [(0, 0, 0)], [(1, 1, 0, 0, 255, 0), (1, 0, 0, 0, 1, 0), (3, 0, 1, 97, 122, 0)], 0, 0), (0, []))]
set_option maxRecDepth 100000 in
theorem kt_X8_isLetter_ff66b9 : sf_chk [] kq_X8_isLetter_ff66b9 1 kc_X8_isLetter_ff66b9 kd_X8_isLetter_ff66b9 = true := by decide +kernel
set_option maxRecDepth 100000 in
theorem kl_X8_isLetter_ff66b9 : (kc_X8_isLetter_ff66b9).map (fun c => (c.1, sf_den ([] : List sf_X) c.2)) = L_X8_isLetter := rfl
theorem ct_X8_isLetter_ff66b9 : sf_ct kq_X8_isLetter_ff66b9 Z_X8_isLetter := by
  have h := sf_meth (K := []) (E := []) (k := kq_X8_isLetter_ff66b9) (nL := 1) (C := kc_X8_isLetter_ff66b9) (D := kd_X8_isLetter_ff66b9) (fun m k hk => match m, hk with
    | _ + 0, hk => (by cases hk)) kt_X8_isLetter_ff66b9
  rw [kl_X8_isLetter_ff66b9] at h
  exact h
def kq_X8_isDigit_ff66b9 : sf_Q := ([(0, 0, 0)], [(1, 0, 0, 0, 255, 0)], some (0, 0, 0), [(1, 0, 0, 0, 1, 0), (3, 0, 3, 48, 57, 0)], [])
def kc_X8_isDigit_ff66b9 : List (Nat × sf_I) := [(0, 2, [1, 0]),
  (1, 0, [3, 48]),
  (3, 21, [6, 16, 2]),
  (6, 2, [7, 0]),
  (7, 0, [9, 57]),
  (9, 21, [12, 16, 4]),
  (12, 0, [13, 1]),
  (13, 22, [17]),
  (16, 0, [17, 0]),
  (17, 36, [0, 0])]
def kd_X8_isDigit_ff66b9 : List (Nat × sf_D × sf_M) := [(0, ([(0, 0, 0)], [], [(1, 1, 0, 0, 255, 0)], 0, 0), (8, [])),
  (1, ([(0, 0, 0)], [(0, 0, 0)], [(1, 1, 0, 0, 255, 0), (1, 0, 0, 0, 255, 0), (2, 0, 1, 1, 0, 0)], 0, 0), (7, [])),
  (3, ([(0, 0, 0)], [(0, 0, 0), (0, 0, 0)], [(1, 1, 0, 0, 255, 0), (1, 0, 0, 0, 255, 0), (1, 3, 0, 48, 48, 0), (2, 0, 1, 1, 0, 0)], 0, 0), (6, [])),
  (6, ([(0, 0, 0)], [], [(1, 1, 0, 48, 255, 0)], 0, 0), (5, [])),
  (7, ([(0, 0, 0)], [(0, 0, 0)], [(1, 1, 0, 48, 255, 0), (1, 0, 0, 48, 255, 0), (2, 0, 1, 1, 0, 0)], 0, 0), (4, [])),
  (9, ([(0, 0, 0)], [(0, 0, 0), (0, 0, 0)], [(1, 1, 0, 48, 255, 0), (1, 0, 0, 48, 255, 0), (1, 3, 0, 57, 57, 0), (2, 0, 1, 1, 0, 0)], 0, 0), (3, [])),
  (12, ([(0, 0, 0)], [], [(1, 1, 0, 48, 57, 0)], 0, 0), (2, [])),
  (13, ([(0, 0, 0)], [(0, 0, 0)], [(1, 1, 0, 48, 57, 0), (1, 0, 0, 1, 1, 0)], 0, 0), (1, [])),
  (16, ([(0, 0, 0)], [], [(1, 1, 0, 0, 255, 0)], 0, 0), (1, [])),
  (17, ([(0, 0, 0)], [(0, 0, 0)], [(1, 1, 0, 0, 255, 0), (1, 0, 0, 0, 1, 0), (3, 0, 1, 48, 57, 0)], 0, 0), (0, []))]
set_option maxRecDepth 100000 in
theorem kt_X8_isDigit_ff66b9 : sf_chk [] kq_X8_isDigit_ff66b9 1 kc_X8_isDigit_ff66b9 kd_X8_isDigit_ff66b9 = true := by decide +kernel
set_option maxRecDepth 100000 in
theorem kl_X8_isDigit_ff66b9 : (kc_X8_isDigit_ff66b9).map (fun c => (c.1, sf_den ([] : List sf_X) c.2)) = L_X8_isDigit := rfl
theorem ct_X8_isDigit_ff66b9 : sf_ct kq_X8_isDigit_ff66b9 Z_X8_isDigit := by
  have h := sf_meth (K := []) (E := []) (k := kq_X8_isDigit_ff66b9) (nL := 1) (C := kc_X8_isDigit_ff66b9) (D := kd_X8_isDigit_ff66b9) (fun m k hk => match m, hk with
    | _ + 0, hk => (by cases hk)) kt_X8_isDigit_ff66b9
  rw [kl_X8_isDigit_ff66b9] at h
  exact h
/-! ===== the String constant: its length, its characters ===== -/
theorem Ev.callR {T : Nat → Option ab_A} {i j : Nat} {lo : List (Option Value)} {st : List Value} {u : Nat × Nat} {hp : ab_H} {Q : ab_O → Prop} {nA k mc ms MC MS : Nat} {X : List Value → ab_H → Option ab_O} {o : ab_O} (hT : T i = some (ab_nx j (ab_callR nA k X mc ms MC MS))) (hr : ab_rcR k (st.take nA).reverse = true) (hc : (decide (nA ≤ st.length) && decide (ab_cats (st.drop nA) ≤ 8) && decide (u.1 + mc ≤ MC) && decide (u.2 + ms ≤ MS)) = true)
    (hX : X (st.take nA).reverse hp = some o) (h : Ev T j (lo, o.1.toList ++ st.drop nA, (u.1 + mc, u.2 + ms), o.2) Q) : Ev T i (lo, st, u, hp) Q :=
  Ev.nx hT (by simp only [ab_callR, ab_call, hr, hc, cond_true, hX]) h
theorem c_mod (y : Int32) : (((y.toUInt32 % 65536).toInt32).toUInt32 % 65536).toInt32 = (y.toUInt32 % 65536).toInt32 := by
  have e : ((y.toUInt32 % 65536).toInt32).toUInt32 = y.toUInt32 % 65536 := rfl
  rw [e]
  have e2 : y.toUInt32 % 65536 % 65536 = y.toUInt32 % 65536 := by
    apply UInt32.toNat_inj.mp
    rw [UInt32.toNat_mod, UInt32.toNat_mod, Nat.mod_mod]
  rw [e2]
theorem x_coder (hp : ab_H) : Z_J0_coder_7d493 [.retAddr 4] hp = some (some (.int 0), hp) := by
  refine ab_X_eq (Nat.le_of_ble_eq_true rfl) ?_
  exact Ev.step rfl rfl (Ev.step rfl rfl (Ev.step rfl rfl (Ev.step rfl rfl (Ev.step rfl rfl (Ev.ret rfl rfl rfl)))))
theorem x_latin (hp : ab_H) : Z_J0_isLatin1_aae02 [.retAddr 4] hp = some (some (.int 1), hp) := by
  refine ab_X_eq (Nat.le_of_ble_eq_true rfl) ?_
  exact Ev.step rfl rfl (Ev.step rfl rfl (Ev.step rfl rfl (Ev.step rfl rfl (Ev.step rfl rfl (Ev.step rfl rfl (Ev.step rfl rfl (Ev.ret rfl rfl rfl)))))))
theorem x_chkI (hp : ab_H) {i n : Int32} (h0 : 0 ≤ i.toInt) (h1 : i.toInt < n.toInt) : Z_J0_checkIndex_df160 [.int i, .int n] hp = some (none, hp) := by
  refine ab_X_eq (Nat.le_of_ble_eq_true rfl) ?_
  refine Ev.step rfl rfl (Ev.step rfl rfl ?_)
  have e0 : decide (i < 0) = false := decide_eq_false fun h => by
    have := Int32.lt_iff_toInt_lt.mp h
    have e : (0 : Int32).toInt = 0 := rfl
    omega
  have e1 : decide (i < n) = true := decide_eq_true (Int32.lt_iff_toInt_lt.mpr h1)
  refine Ev.nx (j := 9) (s' := (ab_en 2 [.int i, .int n], [], (0, 0), hp)) rfl ?_ (Ev.ret rfl rfl rfl)
  show cond (!(decide (i < 0)) && decide (i < n) && decide (ab_cats [] ≤ 8) && decide (0 ≤ 0) && decide (0 ≤ 0)) _ none = _
  rw [e0, e1]
  rfl
theorem x_char1 (hp : ab_H) {x : Int32} (h0 : 0 ≤ x.toInt) (h1 : x.toInt ≤ 174) : ∃ z : Int32, Z_J1_charAt_3b067 [.retAddr 5, .int x] hp = some (some (.int ((z.toUInt32 % 65536).toInt32)), hp) := by
  refine ⟨sw_at x.toNatClampNeg &&& 255, ?_⟩
  refine ab_X_eq (Nat.le_of_ble_eq_true rfl) ?_
  refine Ev.step rfl rfl (Ev.step rfl rfl (Ev.step rfl rfl ?_))
  refine Ev.call (o := (none, hp)) rfl rfl (x_chkI hp h0 (by show x.toInt < 175; omega)) ?_
  refine Ev.step rfl rfl (Ev.step rfl rfl ?_)
  have e : ab_in x 175 = true := n_in h0 (by omega)
  refine Ev.nx (j := 9) (s' := (ab_en 2 [.retAddr 5, .int x], [.int (sw_at x.toNatClampNeg)], (0, 0), hp)) rfl ?_ ?_
  · show cond ((5 : Nat) == 5 && ab_in x 175) _ none = _
    rw [e]
    rfl
  refine Ev.step rfl rfl (Ev.step rfl rfl (Ev.step rfl rfl ?_))
  exact by
   refine Ev.ret (o := (some (.int (((sw_at x.toNatClampNeg &&& 255).toUInt32 % 65536).toInt32)), hp)) rfl ?_ rfl
   show cond (decide (0 ≤ 0) && decide (0 ≤ 0) && decide _) _ none = _
   rw [decide_eq_true (c_mod _)]
   rfl
theorem x_char (hp : ab_H) {x : Int32} (h0 : 0 ≤ x.toInt) (h1 : x.toInt ≤ 174) : ∃ z : Int32, Z_J0_charAt_5068e [.retAddr 4, .int x] hp = some (some (.int z), hp) := by
  obtain ⟨z, hz⟩ := x_char1 hp h0 h1
  refine ⟨(z.toUInt32 % 65536).toInt32, ?_⟩
  refine ab_X_eq (Nat.le_of_ble_eq_true rfl) ?_
  refine Ev.step rfl rfl ?_
  refine Ev.callR (o := (some (.int 1), hp)) rfl rfl rfl (x_latin hp) ?_
  refine Ev.step rfl rfl (Ev.step rfl rfl (Ev.step rfl rfl (Ev.step rfl rfl ?_)))
  refine Ev.call (o := (some (.int ((z.toUInt32 % 65536).toInt32)), hp)) rfl rfl hz ?_
  refine Ev.ret (o := (some (.int ((z.toUInt32 % 65536).toInt32)), hp)) rfl ?_ rfl
  show cond (decide (0 ≤ 0) && decide (0 ≤ 0) && decide _) _ none = _
  rw [decide_eq_true (c_mod _)]
  rfl
theorem x_length (hp : ab_H) : Z_J0_length_8abf5 [.retAddr 4] hp = some (some (.int 175), hp) := by
  refine ab_X_eq (Nat.le_of_ble_eq_true rfl) ?_
  refine Ev.step rfl rfl (Ev.step rfl rfl (Ev.step rfl rfl (Ev.step rfl rfl ?_)))
  refine Ev.callR (o := (some (.int 0), hp)) rfl rfl rfl (x_coder hp) ?_
  exact Ev.step rfl rfl (Ev.ret rfl rfl rfl)
theorem bs_a3 {t : Nat → Nat} {n a b : Nat} {v : Value} (h : sf_j t n (3, a, b) (some v)) : v = .retAddr a := Option.some.inj (h.2.2.2.1 rfl)
def kq_J0_length_h : sf_Q := ([(3, 4, 0)], [], some (0, 0, 0), [(1, 0, 0, 175, 175, 0)], [])
theorem ct_J0_length_h : sf_ct kq_J0_length_h Z_J0_length_8abf5 := by
  intro t hp as H hl hj hpre
  match as, hl with
  | [v0], _ =>
    obtain rfl := bs_a3 (hj 0 _ rfl)
    exact ⟨_, _, t, x_length hp, H, sf_fr_rf, bs_an0, sf_S_cons (sf_s1 (x := (175 : Int)) rfl (by decide) (by decide)) sf_S_nil⟩
def kq_X8_valueAt_072755 : sf_Q := ([(1, 8, 0), (0, 0, 0)], [(1, 3, 0, 0, 999, 0)], some (0, 0, 0), [(1, 0, 0, 0, 255, 0)], [])
def kc_X8_valueAt_072755 : List (Nat × sf_I) := [(0, 2, [1, 1]),
  (1, 20, [4, 24, 2]),
  (4, 2, [5, 1]),
  (5, 0, [8, 940]),
  (8, 21, [11, 24, 5]),
  (11, 4, [12, 0]),
  (12, 23, [15, 8, 0]),
  (15, 2, [16, 1]),
  (16, 25, [17, 0]),
  (17, 0, [20, 255]),
  (20, 9, [21, 3]),
  (21, 22, [25]),
  (24, 0, [25, 0]),
  (25, 35, [0, 0])]
def kd_X8_valueAt_072755_0 : List (Nat × sf_D × sf_M) := [(0, ([(1, 8, 0), (0, 0, 0)], [], [(1, 4, 0, 0, 999, 0)], 0, 0), (12, [])),
  (1, ([(1, 8, 0), (0, 0, 0)], [(0, 0, 0)], [(1, 4, 0, 0, 999, 0), (1, 0, 0, 0, 999, 0), (2, 0, 4, 1, 0, 0)], 0, 0), (11, [])),
  (4, ([(1, 8, 0), (0, 0, 0)], [], [(1, 4, 0, 0, 999, 0)], 0, 0), (10, [])),
  (5, ([(1, 8, 0), (0, 0, 0)], [(0, 0, 0)], [(1, 4, 0, 0, 999, 0), (1, 0, 0, 0, 999, 0), (2, 0, 4, 1, 0, 0)], 0, 0), (9, [])),
  (8, ([(1, 8, 0), (0, 0, 0)], [(0, 0, 0), (0, 0, 0)], [(1, 4, 0, 0, 999, 0), (1, 0, 0, 0, 999, 0), (1, 3, 0, 940, 940, 0), (2, 0, 4, 1, 0, 0)], 0, 0), (8, [])),
  (11, ([(1, 8, 0), (0, 0, 0)], [], [(1, 4, 0, 0, 939, 0)], 0, 0), (7, [])),
  (12, ([(1, 8, 0), (0, 0, 0)], [(1, 8, 0)], [(1, 4, 0, 0, 939, 0)], 0, 0), (6, [])),
  (15, ([(1, 8, 0), (0, 0, 0)], [(1, 123, 0)], [(1, 4, 0, 0, 939, 0)], 0, 0), (5, [])),
  (16, ([(1, 8, 0), (0, 0, 0)], [(0, 0, 0), (1, 123, 0)], [(1, 4, 0, 0, 939, 0), (1, 3, 0, 0, 939, 0), (2, 3, 4, 1, 0, 0)], 0, 0), (4, [])),
  (17, ([(1, 8, 0), (0, 0, 0)], [(0, 0, 0)], [(1, 4, 0, 0, 939, 0), (1, 0, 0, -2147483648, 2147483647, 0)], 0, 0), (3, [])),
  (20, ([(1, 8, 0), (0, 0, 0)], [(0, 0, 0), (0, 0, 0)], [(1, 4, 0, 0, 939, 0), (1, 0, 0, -2147483648, 2147483647, 0), (1, 3, 0, 255, 255, 0)], 0, 0), (2, [])),
  (21, ([(1, 8, 0), (0, 0, 0)], [(0, 0, 0)], [(1, 4, 0, 0, 939, 0), (1, 0, 0, 0, 255, 0)], 0, 0), (1, [])),
  (24, ([(1, 8, 0), (0, 0, 0)], [], [(1, 4, 0, 940, 999, 0)], 0, 0), (1, []))]
def kd_X8_valueAt_072755_1 : List (Nat × sf_D × sf_M) := [(25, ([(1, 8, 0), (0, 0, 0)], [(0, 0, 0)], [(1, 4, 0, 0, 999, 0), (1, 0, 0, 0, 255, 0)], 0, 0), (0, []))]
def kd_X8_valueAt_072755 : List (Nat × sf_D × sf_M) := kd_X8_valueAt_072755_0 ++ (kd_X8_valueAt_072755_1)
set_option maxRecDepth 100000 in
theorem kt_X8_valueAt_072755 : sf_chk [] kq_X8_valueAt_072755 2 kc_X8_valueAt_072755 kd_X8_valueAt_072755 = true := by decide +kernel
set_option maxRecDepth 100000 in
theorem kl_X8_valueAt_072755 : (kc_X8_valueAt_072755).map (fun c => (c.1, sf_den ([] : List sf_X) c.2)) = L_X8_valueAt := rfl
theorem ct_X8_valueAt_072755 : sf_ct kq_X8_valueAt_072755 Z_X8_valueAt := by
  have h := sf_meth (K := []) (E := []) (k := kq_X8_valueAt_072755) (nL := 2) (C := kc_X8_valueAt_072755) (D := kd_X8_valueAt_072755) (fun m k hk => match m, hk with
    | _ + 0, hk => (by cases hk)) kt_X8_valueAt_072755
  rw [kl_X8_valueAt_072755] at h
  exact h
def kq_J0_charAt_h : sf_Q := ([(3, 4, 0), (0, 0, 0)], [(1, 3, 0, 0, 174, 0)], some (0, 0, 0), [], [])
theorem ct_J0_charAt_h : sf_ct kq_J0_charAt_h Z_J0_charAt_5068e := by
  intro t hp as H hl hj hpre
  match as, hl with
  | [v0, v1], _ =>
    obtain rfl := bs_a3 (hj 0 _ rfl)
    obtain ⟨x, rfl⟩ := bs_aI (hj 1 _ rfl)
    obtain ⟨p1, p2⟩ := bs_s1 (x := x.toInt) rfl (hpre _ (List.mem_of_getElem? (i := 0) rfl))
    obtain ⟨z, hz⟩ := x_char hp p1 p2
    exact ⟨_, _, t, hz, H, sf_fr_rf, bs_an0, sf_S_nil⟩
def kq_X8_isToldWord_0e09af : sf_Q := ([(1, 8, 0), (0, 0, 0), (0, 0, 0), (0, 0, 0)], [(1, 3, 0, 0, 24, 0), (1, 6, 0, 0, 940, 0)], some (0, 0, 0), [(1, 0, 0, 0, 1, 0)], [])
def kc_X8_isToldWord_0e09af : List (Nat × sf_I) := [(0, 2, [1, 1]),
  (1, 0, [3, 7]),
  (3, 9, [4, 2]),
  (4, 5, [6, 4]),
  (6, 0, [7, 0]),
  (7, 5, [9, 5]),
  (9, 2, [11, 5]),
  (11, 0, [13, 7]),
  (13, 21, [16, 73, 5]),
  (16, 2, [18, 4]),
  (18, 2, [20, 5]),
  (20, 9, [21, 0]),
  (21, 40, [23, 4]),
  (23, 41, [26, 0, 1, 4, 0, 0, 0, 0]),
  (26, 21, [29, 73, 5]),
  (29, 2, [31, 5]),
  (31, 2, [32, 3]),
  (32, 21, [35, 46, 5]),
  (35, 4, [36, 0]),
  (36, 2, [37, 2]),
  (37, 2, [39, 5]),
  (39, 9, [40, 0]),
  (40, 32, [43, 1, 2, 8, 0, 0, 0, 0]),
  (43, 22, [48]),
  (46, 0, [48, 32]),
  (48, 5, [50, 6]),
  (50, 2, [52, 6]),
  (52, 40, [54, 4]),
  (54, 2, [56, 4]),
  (56, 2, [58, 5]),
  (58, 9, [59, 0]),
  (59, 41, [62, 2, 2, 4, 0, 0, 0, 0]),
  (62, 21, [65, 67, 0]),
  (65, 0, [66, 0]),
  (66, 36, [0, 0]),
  (67, 8, [70, 5, 1]),
  (70, 22, [9]),
  (73, 0, [74, 1]),
  (74, 36, [0, 0])]
def kd_X8_isToldWord_0e09af_0 : List (Nat × sf_D × sf_M) := [(0, ([(1, 8, 0), (0, 0, 0), (0, 0, 0), (0, 0, 0), (8, 0, 0), (8, 0, 0), (8, 0, 0)], [], [(1, 4, 0, 0, 24, 0), (1, 7, 0, 0, 940, 0)], 0, 0), (250, [])),
  (1, ([(1, 8, 0), (0, 0, 0), (0, 0, 0), (0, 0, 0), (8, 0, 0), (8, 0, 0), (8, 0, 0)], [(0, 0, 0)], [(1, 4, 0, 0, 24, 0), (1, 7, 0, 0, 940, 0), (1, 0, 0, 0, 24, 0), (2, 0, 4, 1, 0, 0)], 0, 0), (249, [])),
  (3, ([(1, 8, 0), (0, 0, 0), (0, 0, 0), (0, 0, 0), (8, 0, 0), (8, 0, 0), (8, 0, 0)], [(0, 0, 0), (0, 0, 0)], [(1, 4, 0, 0, 24, 0), (1, 7, 0, 0, 940, 0), (1, 0, 0, 0, 24, 0), (1, 3, 0, 7, 7, 0), (2, 0, 4, 1, 0, 0)], 0, 0), (248, [])),
  (4, ([(1, 8, 0), (0, 0, 0), (0, 0, 0), (0, 0, 0), (8, 0, 0), (8, 0, 0), (8, 0, 0)], [(0, 0, 0)], [(1, 4, 0, 0, 24, 0), (1, 7, 0, 0, 940, 0), (1, 0, 0, 0, 168, 0), (2, 0, 4, 7, 0, 0)], 0, 0), (247, [])),
  (6, ([(1, 8, 0), (0, 0, 0), (0, 0, 0), (0, 0, 0), (0, 0, 0), (8, 0, 0), (8, 0, 0)], [], [(1, 4, 0, 0, 24, 0), (1, 7, 0, 0, 940, 0), (1, 13, 0, 0, 168, 0), (2, 13, 4, 7, 0, 0)], 0, 0), (246, [])),
  (7, ([(1, 8, 0), (0, 0, 0), (0, 0, 0), (0, 0, 0), (0, 0, 0), (8, 0, 0), (8, 0, 0)], [(0, 0, 0)], [(1, 4, 0, 0, 24, 0), (1, 7, 0, 0, 940, 0), (1, 13, 0, 0, 168, 0), (1, 0, 0, 0, 0, 0), (2, 13, 4, 7, 0, 0)], 0, 0), (245, []))]
def kd_X8_isToldWord_0e09af_1 : List (Nat × sf_D × sf_M) := [(9, ([(1, 8, 0), (0, 0, 0), (0, 0, 0), (0, 0, 0), (0, 0, 0), (0, 0, 0), (8, 0, 0)], [], [(1, 4, 0, 0, 24, 0), (1, 7, 0, 0, 940, 0), (1, 13, 0, 0, 168, 0), (1, 16, 0, 0, 7, 0), (2, 13, 4, 7, 0, 0)], 0, 0), (27, [(31, 16, 7, 0)])),
  (11, ([(1, 8, 0), (0, 0, 0), (0, 0, 0), (0, 0, 0), (0, 0, 0), (0, 0, 0), (8, 0, 0)], [(0, 0, 0)], [(1, 4, 0, 0, 24, 0), (1, 7, 0, 0, 940, 0), (1, 13, 0, 0, 168, 0), (1, 16, 0, 0, 7, 0), (1, 0, 0, 0, 7, 0), (2, 13, 4, 7, 0, 0), (2, 0, 16, 1, 0, 0)], 0, 0), (26, [(31, 16, 7, 0)])),
  (13, ([(1, 8, 0), (0, 0, 0), (0, 0, 0), (0, 0, 0), (0, 0, 0), (0, 0, 0), (8, 0, 0)], [(0, 0, 0), (0, 0, 0)], [(1, 4, 0, 0, 24, 0), (1, 7, 0, 0, 940, 0), (1, 13, 0, 0, 168, 0), (1, 16, 0, 0, 7, 0), (1, 0, 0, 0, 7, 0), (1, 3, 0, 7, 7, 0), (2, 13, 4, 7, 0, 0), (2, 0, 16, 1, 0, 0)], 0, 0), (25, [(31, 16, 7, 0)])),
  (16, ([(1, 8, 0), (0, 0, 0), (0, 0, 0), (0, 0, 0), (0, 0, 0), (0, 0, 0), (8, 0, 0)], [], [(1, 4, 0, 0, 24, 0), (1, 7, 0, 0, 940, 0), (1, 13, 0, 0, 168, 0), (1, 16, 0, 0, 6, 0), (2, 13, 4, 7, 0, 0)], 0, 0), (24, [(31, 16, 7, 0)]))]
def kd_X8_isToldWord_0e09af_2 : List (Nat × sf_D × sf_M) := [(18, ([(1, 8, 0), (0, 0, 0), (0, 0, 0), (0, 0, 0), (0, 0, 0), (0, 0, 0), (8, 0, 0)], [(0, 0, 0)], [(1, 4, 0, 0, 24, 0), (1, 7, 0, 0, 940, 0), (1, 13, 0, 0, 168, 0), (1, 16, 0, 0, 6, 0), (1, 0, 0, 0, 168, 0), (2, 13, 4, 7, 0, 0), (2, 0, 13, 1, 0, 0)], 0, 0), (23, [(31, 16, 7, 0)])),
  (20, ([(1, 8, 0), (0, 0, 0), (0, 0, 0), (0, 0, 0), (0, 0, 0), (0, 0, 0), (8, 0, 0)], [(0, 0, 0), (0, 0, 0)], [(1, 4, 0, 0, 24, 0), (1, 7, 0, 0, 940, 0), (1, 13, 0, 0, 168, 0), (1, 16, 0, 0, 6, 0), (1, 0, 0, 0, 168, 0), (1, 3, 0, 0, 6, 0), (2, 13, 4, 7, 0, 0), (2, 0, 13, 1, 0, 0), (2, 3, 16, 1, 0, 0)], 0, 0), (22, [(31, 16, 7, 0)])),
  (21, ([(1, 8, 0), (0, 0, 0), (0, 0, 0), (0, 0, 0), (0, 0, 0), (0, 0, 0), (8, 0, 0)], [(0, 0, 0)], [(1, 4, 0, 0, 24, 0), (1, 7, 0, 0, 940, 0), (1, 13, 0, 0, 168, 0), (1, 16, 0, 0, 6, 0), (1, 0, 0, 0, 174, 0), (2, 13, 4, 7, 0, 0)], 0, 0), (21, [(31, 16, 7, 0)])),
  (23, ([(1, 8, 0), (0, 0, 0), (0, 0, 0), (0, 0, 0), (0, 0, 0), (0, 0, 0), (8, 0, 0)], [(3, 4, 0), (0, 0, 0)], [(1, 4, 0, 0, 24, 0), (1, 7, 0, 0, 940, 0), (1, 13, 0, 0, 168, 0), (1, 16, 0, 0, 6, 0), (1, 0, 0, 0, 174, 0), (2, 13, 4, 7, 0, 0)], 0, 0), (20, [(31, 16, 7, 0)]))]
def kd_X8_isToldWord_0e09af_3 : List (Nat × sf_D × sf_M) := [(26, ([(1, 8, 0), (0, 0, 0), (0, 0, 0), (0, 0, 0), (0, 0, 0), (0, 0, 0), (8, 0, 0)], [(0, 0, 0), (0, 0, 0)], [(1, 4, 0, 0, 24, 0), (1, 7, 0, 0, 940, 0), (1, 13, 0, 0, 168, 0), (1, 16, 0, 0, 6, 0), (1, 0, 0, 0, 174, 0), (1, 3, 0, 175, 175, 0), (2, 13, 4, 7, 0, 0)], 0, 0), (19, [(31, 16, 7, 0)])),
  (29, ([(1, 8, 0), (0, 0, 0), (0, 0, 0), (0, 0, 0), (0, 0, 0), (0, 0, 0), (8, 0, 0)], [], [(1, 4, 0, 0, 24, 0), (1, 7, 0, 0, 940, 0), (1, 13, 0, 0, 168, 0), (1, 16, 0, 0, 6, 0), (2, 13, 4, 7, 0, 0)], 0, 0), (18, [(31, 16, 7, 0)])),
  (31, ([(1, 8, 0), (0, 0, 0), (0, 0, 0), (0, 0, 0), (0, 0, 0), (0, 0, 0), (8, 0, 0)], [(0, 0, 0)], [(1, 4, 0, 0, 24, 0), (1, 7, 0, 0, 940, 0), (1, 13, 0, 0, 168, 0), (1, 16, 0, 0, 6, 0), (1, 0, 0, 0, 6, 0), (2, 13, 4, 7, 0, 0), (2, 0, 16, 1, 0, 0)], 0, 0), (17, [(31, 16, 7, 0)])),
  (32, ([(1, 8, 0), (0, 0, 0), (0, 0, 0), (0, 0, 0), (0, 0, 0), (0, 0, 0), (8, 0, 0)], [(0, 0, 0), (0, 0, 0)], [(1, 4, 0, 0, 24, 0), (1, 7, 0, 0, 940, 0), (1, 13, 0, 0, 168, 0), (1, 16, 0, 0, 6, 0), (1, 0, 0, 0, 6, 0), (1, 3, 0, -2147483648, 2147483647, 0), (1, 10, 0, -2147483648, 2147483647, 0), (2, 13, 4, 7, 0, 0), (2, 0, 16, 1, 0, 0), (2, 3, 10, 1, 0, 0)], 0, 0), (16, [(31, 16, 7, 0)]))]
def kd_X8_isToldWord_0e09af_4 : List (Nat × sf_D × sf_M) := [(35, ([(1, 8, 0), (0, 0, 0), (0, 0, 0), (0, 0, 0), (0, 0, 0), (0, 0, 0), (8, 0, 0)], [], [(1, 4, 0, 0, 24, 0), (1, 7, 0, 0, 940, 0), (1, 13, 0, 0, 168, 0), (1, 16, 0, 0, 6, 0), (1, 10, 0, 1, 2147483647, 0), (2, 13, 4, 7, 0, 0)], 0, 0), (15, [(31, 16, 7, 0)])),
  (36, ([(1, 8, 0), (0, 0, 0), (0, 0, 0), (0, 0, 0), (0, 0, 0), (0, 0, 0), (8, 0, 0)], [(1, 8, 0)], [(1, 4, 0, 0, 24, 0), (1, 7, 0, 0, 940, 0), (1, 13, 0, 0, 168, 0), (1, 16, 0, 0, 6, 0), (1, 10, 0, 1, 2147483647, 0), (2, 13, 4, 7, 0, 0)], 0, 0), (14, [(31, 16, 7, 0)])),
  (37, ([(1, 8, 0), (0, 0, 0), (0, 0, 0), (0, 0, 0), (0, 0, 0), (0, 0, 0), (8, 0, 0)], [(0, 0, 0), (1, 8, 0)], [(1, 4, 0, 0, 24, 0), (1, 7, 0, 0, 940, 0), (1, 13, 0, 0, 168, 0), (1, 16, 0, 0, 6, 0), (1, 10, 0, 1, 2147483647, 0), (1, 3, 0, 0, 940, 0), (2, 13, 4, 7, 0, 0), (2, 3, 7, 1, 0, 0)], 0, 0), (13, [(31, 16, 7, 0)])),
  (39, ([(1, 8, 0), (0, 0, 0), (0, 0, 0), (0, 0, 0), (0, 0, 0), (0, 0, 0), (8, 0, 0)], [(0, 0, 0), (0, 0, 0), (1, 8, 0)], [(1, 4, 0, 0, 24, 0), (1, 7, 0, 0, 940, 0), (1, 13, 0, 0, 168, 0), (1, 16, 0, 0, 6, 0), (1, 10, 0, 1, 2147483647, 0), (1, 3, 0, 0, 940, 0), (1, 6, 0, 0, 6, 0), (2, 13, 4, 7, 0, 0), (2, 3, 7, 1, 0, 0), (2, 6, 16, 1, 0, 0)], 0, 0), (12, [(31, 16, 7, 0)]))]
def kd_X8_isToldWord_0e09af_5 : List (Nat × sf_D × sf_M) := [(40, ([(1, 8, 0), (0, 0, 0), (0, 0, 0), (0, 0, 0), (0, 0, 0), (0, 0, 0), (8, 0, 0)], [(0, 0, 0), (1, 8, 0)], [(1, 4, 0, 0, 24, 0), (1, 7, 0, 0, 940, 0), (1, 13, 0, 0, 168, 0), (1, 16, 0, 0, 6, 0), (1, 10, 0, 1, 2147483647, 0), (1, 3, 0, 0, 946, 0), (2, 13, 4, 7, 0, 0)], 0, 0), (11, [(31, 16, 7, 0)])),
  (43, ([(1, 8, 0), (0, 0, 0), (0, 0, 0), (0, 0, 0), (0, 0, 0), (0, 0, 0), (8, 0, 0)], [(0, 0, 0)], [(1, 4, 0, 0, 24, 0), (1, 7, 0, 0, 940, 0), (1, 13, 0, 0, 168, 0), (1, 16, 0, 0, 6, 0), (1, 10, 0, 1, 2147483647, 0), (1, 0, 0, 0, 255, 0), (2, 13, 4, 7, 0, 0)], 0, 0), (10, [(31, 16, 7, 0)])),
  (46, ([(1, 8, 0), (0, 0, 0), (0, 0, 0), (0, 0, 0), (0, 0, 0), (0, 0, 0), (8, 0, 0)], [], [(1, 4, 0, 0, 24, 0), (1, 7, 0, 0, 940, 0), (1, 13, 0, 0, 168, 0), (1, 16, 0, 0, 6, 0), (1, 10, 0, -2147483648, 6, 0), (2, 13, 4, 7, 0, 0)], 0, 0), (10, [(31, 16, 7, 0)])),
  (48, ([(1, 8, 0), (0, 0, 0), (0, 0, 0), (0, 0, 0), (0, 0, 0), (0, 0, 0), (8, 0, 0)], [(0, 0, 0)], [(1, 4, 0, 0, 24, 0), (1, 7, 0, 0, 940, 0), (1, 13, 0, 0, 168, 0), (1, 16, 0, 0, 6, 0), (1, 10, 0, -2147483648, 2147483647, 0), (1, 0, 0, 0, 255, 0), (2, 13, 4, 7, 0, 0)], 0, 0), (9, [(31, 16, 7, 0)]))]
def kd_X8_isToldWord_0e09af_6 : List (Nat × sf_D × sf_M) := [(50, ([(1, 8, 0), (0, 0, 0), (0, 0, 0), (0, 0, 0), (0, 0, 0), (0, 0, 0), (0, 0, 0)], [], [(1, 4, 0, 0, 24, 0), (1, 7, 0, 0, 940, 0), (1, 13, 0, 0, 168, 0), (1, 16, 0, 0, 6, 0), (1, 10, 0, -2147483648, 2147483647, 0), (1, 19, 0, 0, 255, 0), (2, 13, 4, 7, 0, 0)], 0, 0), (8, [(31, 16, 7, 0)])),
  (52, ([(1, 8, 0), (0, 0, 0), (0, 0, 0), (0, 0, 0), (0, 0, 0), (0, 0, 0), (0, 0, 0)], [(0, 0, 0)], [(1, 4, 0, 0, 24, 0), (1, 7, 0, 0, 940, 0), (1, 13, 0, 0, 168, 0), (1, 16, 0, 0, 6, 0), (1, 10, 0, -2147483648, 2147483647, 0), (1, 19, 0, 0, 255, 0), (1, 0, 0, 0, 255, 0), (2, 13, 4, 7, 0, 0), (2, 0, 19, 1, 0, 0)], 0, 0), (7, [(31, 16, 7, 0)])),
  (54, ([(1, 8, 0), (0, 0, 0), (0, 0, 0), (0, 0, 0), (0, 0, 0), (0, 0, 0), (0, 0, 0)], [(3, 4, 0), (0, 0, 0)], [(1, 4, 0, 0, 24, 0), (1, 7, 0, 0, 940, 0), (1, 13, 0, 0, 168, 0), (1, 16, 0, 0, 6, 0), (1, 10, 0, -2147483648, 2147483647, 0), (1, 19, 0, 0, 255, 0), (1, 0, 0, 0, 255, 0), (2, 13, 4, 7, 0, 0), (2, 0, 19, 1, 0, 0)], 0, 0), (6, [(31, 16, 7, 0)]))]
def kd_X8_isToldWord_0e09af_7 : List (Nat × sf_D × sf_M) := [(56, ([(1, 8, 0), (0, 0, 0), (0, 0, 0), (0, 0, 0), (0, 0, 0), (0, 0, 0), (0, 0, 0)], [(0, 0, 0), (3, 4, 0), (0, 0, 0)], [(1, 4, 0, 0, 24, 0), (1, 7, 0, 0, 940, 0), (1, 13, 0, 0, 168, 0), (1, 16, 0, 0, 6, 0), (1, 10, 0, -2147483648, 2147483647, 0), (1, 19, 0, 0, 255, 0), (1, 0, 0, 0, 255, 0), (1, 6, 0, 0, 168, 0), (2, 13, 4, 7, 0, 0), (2, 0, 19, 1, 0, 0), (2, 6, 13, 1, 0, 0)], 0, 0), (5, [(31, 16, 7, 0)])),
  (58, ([(1, 8, 0), (0, 0, 0), (0, 0, 0), (0, 0, 0), (0, 0, 0), (0, 0, 0), (0, 0, 0)], [(0, 0, 0), (0, 0, 0), (3, 4, 0), (0, 0, 0)], [(1, 4, 0, 0, 24, 0), (1, 7, 0, 0, 940, 0), (1, 13, 0, 0, 168, 0), (1, 16, 0, 0, 6, 0), (1, 10, 0, -2147483648, 2147483647, 0), (1, 19, 0, 0, 255, 0), (1, 0, 0, 0, 255, 0), (1, 6, 0, 0, 168, 0), (1, 9, 0, 0, 6, 0), (2, 13, 4, 7, 0, 0), (2, 0, 19, 1, 0, 0), (2, 6, 13, 1, 0, 0), (2, 9, 16, 1, 0, 0)], 0, 0), (4, [(31, 16, 7, 0)])),
  (59, ([(1, 8, 0), (0, 0, 0), (0, 0, 0), (0, 0, 0), (0, 0, 0), (0, 0, 0), (0, 0, 0)], [(0, 0, 0), (3, 4, 0), (0, 0, 0)], [(1, 4, 0, 0, 24, 0), (1, 7, 0, 0, 940, 0), (1, 13, 0, 0, 168, 0), (1, 16, 0, 0, 6, 0), (1, 10, 0, -2147483648, 2147483647, 0), (1, 19, 0, 0, 255, 0), (1, 0, 0, 0, 255, 0), (1, 6, 0, 0, 174, 0), (2, 13, 4, 7, 0, 0), (2, 0, 19, 1, 0, 0)], 0, 0), (3, [(31, 16, 7, 0)]))]
def kd_X8_isToldWord_0e09af_8 : List (Nat × sf_D × sf_M) := [(62, ([(1, 8, 0), (0, 0, 0), (0, 0, 0), (0, 0, 0), (0, 0, 0), (0, 0, 0), (0, 0, 0)], [(0, 0, 0), (0, 0, 0)], [(1, 4, 0, 0, 24, 0), (1, 7, 0, 0, 940, 0), (1, 13, 0, 0, 168, 0), (1, 16, 0, 0, 6, 0), (1, 10, 0, -2147483648, 2147483647, 0), (1, 19, 0, 0, 255, 0), (1, 0, 0, 0, 255, 0), (1, 3, 0, -2147483648, 2147483647, 0), (2, 13, 4, 7, 0, 0), (2, 0, 19, 1, 0, 0)], 0, 0), (2, [(31, 16, 7, 0)])),
  (65, ([(1, 8, 0), (0, 0, 0), (0, 0, 0), (0, 0, 0), (0, 0, 0), (0, 0, 0), (0, 0, 0)], [], [(1, 4, 0, 0, 24, 0), (1, 7, 0, 0, 940, 0), (1, 13, 0, 0, 168, 0), (1, 16, 0, 0, 6, 0), (1, 10, 0, -2147483648, 2147483647, 0), (1, 19, 0, 0, 255, 0), (2, 13, 4, 7, 0, 0)], 0, 0), (1, [])),
  (66, ([(1, 8, 0), (0, 0, 0), (0, 0, 0), (0, 0, 0), (0, 0, 0), (0, 0, 0), (0, 0, 0)], [(0, 0, 0)], [(1, 4, 0, 0, 24, 0), (1, 7, 0, 0, 940, 0), (1, 13, 0, 0, 168, 0), (1, 16, 0, 0, 6, 0), (1, 10, 0, -2147483648, 2147483647, 0), (1, 19, 0, 0, 255, 0), (1, 0, 0, 0, 0, 0), (2, 13, 4, 7, 0, 0)], 0, 0), (0, [])),
  (67, ([(1, 8, 0), (0, 0, 0), (0, 0, 0), (0, 0, 0), (0, 0, 0), (0, 0, 0), (0, 0, 0)], [], [(1, 4, 0, 0, 24, 0), (1, 7, 0, 0, 940, 0), (1, 13, 0, 0, 168, 0), (1, 16, 0, 0, 6, 0), (1, 10, 0, -2147483648, 2147483647, 0), (1, 19, 0, 0, 255, 0), (2, 13, 4, 7, 0, 0)], 0, 0), (0, [(31, 16, 7, 0)]))]
def kd_X8_isToldWord_0e09af_9 : List (Nat × sf_D × sf_M) := [(70, ([(1, 8, 0), (0, 0, 0), (0, 0, 0), (0, 0, 0), (0, 0, 0), (0, 0, 0), (0, 0, 0)], [], [(1, 4, 0, 0, 24, 0), (1, 7, 0, 0, 940, 0), (1, 13, 0, 0, 168, 0), (1, 10, 0, -2147483648, 2147483647, 0), (1, 19, 0, 0, 255, 0), (1, 16, 0, 1, 7, 0), (2, 13, 4, 7, 0, 0)], 0, 0), (28, [(31, 16, 7, 0)])),
  (73, ([(1, 8, 0), (0, 0, 0), (0, 0, 0), (0, 0, 0), (0, 0, 0), (0, 0, 0), (8, 0, 0)], [], [(1, 4, 0, 0, 24, 0), (1, 7, 0, 0, 940, 0), (1, 13, 0, 0, 168, 0), (1, 16, 0, 7, 7, 0), (2, 13, 4, 7, 0, 0)], 0, 0), (1, [])),
  (74, ([(1, 8, 0), (0, 0, 0), (0, 0, 0), (0, 0, 0), (0, 0, 0), (0, 0, 0), (8, 0, 0)], [(0, 0, 0)], [(1, 4, 0, 0, 24, 0), (1, 7, 0, 0, 940, 0), (1, 13, 0, 0, 168, 0), (1, 16, 0, 7, 7, 0), (1, 0, 0, 1, 1, 0), (2, 13, 4, 7, 0, 0)], 0, 0), (0, []))]
def kd_X8_isToldWord_0e09af : List (Nat × sf_D × sf_M) := kd_X8_isToldWord_0e09af_0 ++ (kd_X8_isToldWord_0e09af_1 ++ (kd_X8_isToldWord_0e09af_2 ++ (kd_X8_isToldWord_0e09af_3 ++ (kd_X8_isToldWord_0e09af_4 ++ (kd_X8_isToldWord_0e09af_5 ++ (kd_X8_isToldWord_0e09af_6 ++ (kd_X8_isToldWord_0e09af_7 ++ (kd_X8_isToldWord_0e09af_8 ++ (kd_X8_isToldWord_0e09af_9)))))))))
set_option maxRecDepth 100000 in
theorem kt_X8_isToldWord_0e09af : sf_chk [kq_J0_length_h, kq_X8_valueAt_072755, kq_J0_charAt_h] kq_X8_isToldWord_0e09af 7 kc_X8_isToldWord_0e09af kd_X8_isToldWord_0e09af = true := by decide +kernel
set_option maxRecDepth 100000 in
theorem kl_X8_isToldWord_0e09af : (kc_X8_isToldWord_0e09af).map (fun c => (c.1, sf_den ([Z_J0_length_8abf5, Z_X8_valueAt, Z_J0_charAt_5068e] : List sf_X) c.2)) = L_X8_isToldWord Z_J0_length_8abf5 Z_X8_valueAt Z_J0_charAt_5068e := rfl
theorem ct_X8_isToldWord_0e09af : sf_ct kq_X8_isToldWord_0e09af Z_X8_isToldWord := by
  have h := sf_meth (K := [kq_J0_length_h, kq_X8_valueAt_072755, kq_J0_charAt_h]) (E := [Z_J0_length_8abf5, Z_X8_valueAt, Z_J0_charAt_5068e]) (k := kq_X8_isToldWord_0e09af) (nL := 7) (C := kc_X8_isToldWord_0e09af) (D := kd_X8_isToldWord_0e09af) (fun m k hk => match m, hk with
    | 0, hk => (Option.some.inj hk) ▸ ct_J0_length_h
    | 1, hk => (Option.some.inj hk) ▸ ct_X8_valueAt_072755
    | 2, hk => (Option.some.inj hk) ▸ ct_J0_charAt_h
    | _ + 3, hk => (by cases hk)) kt_X8_isToldWord_0e09af
  rw [kl_X8_isToldWord_0e09af] at h
  exact h
def kq_X8_kindOfWord_84b65a : sf_Q := ([(1, 8, 0), (0, 0, 0), (0, 0, 0)], [(1, 3, 0, 0, 940, 0)], some (0, 0, 0), [(1, 0, 0, 2, 88, 0)], [])
def kc_X8_kindOfWord_84b65a : List (Nat × sf_I) := [(0, 0, [1, 0]),
  (1, 5, [2, 3]),
  (2, 2, [3, 3]),
  (3, 0, [5, 25]),
  (5, 21, [8, 29, 5]),
  (8, 4, [9, 0]),
  (9, 2, [10, 3]),
  (10, 2, [11, 1]),
  (11, 2, [12, 2]),
  (12, 32, [15, 0, 4, 8, 0, 0, 0, 0]),
  (15, 20, [18, 23, 0]),
  (18, 0, [20, 64]),
  (20, 2, [21, 3]),
  (21, 9, [22, 0]),
  (22, 35, [0, 0]),
  (23, 8, [26, 3, 1]),
  (26, 22, [2]),
  (29, 0, [30, 2]),
  (30, 35, [0, 0])]
def kd_X8_kindOfWord_84b65a_0 : List (Nat × sf_D × sf_M) := [(0, ([(1, 8, 0), (0, 0, 0), (0, 0, 0), (8, 0, 0)], [], [(1, 4, 0, 0, 940, 0)], 0, 0), (339, [])),
  (1, ([(1, 8, 0), (0, 0, 0), (0, 0, 0), (8, 0, 0)], [(0, 0, 0)], [(1, 4, 0, 0, 940, 0), (1, 0, 0, 0, 0, 0)], 0, 0), (338, [])),
  (2, ([(1, 8, 0), (0, 0, 0), (0, 0, 0), (0, 0, 0)], [], [(1, 4, 0, 0, 940, 0), (1, 10, 0, 0, 25, 0)], 0, 0), (12, [(13, 10, 25, 0)])),
  (3, ([(1, 8, 0), (0, 0, 0), (0, 0, 0), (0, 0, 0)], [(0, 0, 0)], [(1, 4, 0, 0, 940, 0), (1, 10, 0, 0, 25, 0), (1, 0, 0, 0, 25, 0), (2, 0, 10, 1, 0, 0)], 0, 0), (11, [(13, 10, 25, 0)])),
  (5, ([(1, 8, 0), (0, 0, 0), (0, 0, 0), (0, 0, 0)], [(0, 0, 0), (0, 0, 0)], [(1, 4, 0, 0, 940, 0), (1, 10, 0, 0, 25, 0), (1, 0, 0, 0, 25, 0), (1, 3, 0, 25, 25, 0), (2, 0, 10, 1, 0, 0)], 0, 0), (10, [(13, 10, 25, 0)])),
  (8, ([(1, 8, 0), (0, 0, 0), (0, 0, 0), (0, 0, 0)], [], [(1, 4, 0, 0, 940, 0), (1, 10, 0, 0, 24, 0)], 0, 0), (9, [(13, 10, 25, 0)])),
  (9, ([(1, 8, 0), (0, 0, 0), (0, 0, 0), (0, 0, 0)], [(1, 8, 0)], [(1, 4, 0, 0, 940, 0), (1, 10, 0, 0, 24, 0)], 0, 0), (8, [(13, 10, 25, 0)])),
  (10, ([(1, 8, 0), (0, 0, 0), (0, 0, 0), (0, 0, 0)], [(0, 0, 0), (1, 8, 0)], [(1, 4, 0, 0, 940, 0), (1, 10, 0, 0, 24, 0), (1, 3, 0, 0, 24, 0), (2, 3, 10, 1, 0, 0)], 0, 0), (7, [(13, 10, 25, 0)]))]
def kd_X8_kindOfWord_84b65a_1 : List (Nat × sf_D × sf_M) := [(11, ([(1, 8, 0), (0, 0, 0), (0, 0, 0), (0, 0, 0)], [(0, 0, 0), (0, 0, 0), (1, 8, 0)], [(1, 4, 0, 0, 940, 0), (1, 10, 0, 0, 24, 0), (1, 3, 0, 0, 24, 0), (1, 6, 0, 0, 940, 0), (2, 3, 10, 1, 0, 0), (2, 6, 4, 1, 0, 0)], 0, 0), (6, [(13, 10, 25, 0)])),
  (12, ([(1, 8, 0), (0, 0, 0), (0, 0, 0), (0, 0, 0)], [(0, 0, 0), (0, 0, 0), (0, 0, 0), (1, 8, 0)], [(1, 4, 0, 0, 940, 0), (1, 10, 0, 0, 24, 0), (1, 3, 0, 0, 24, 0), (1, 6, 0, 0, 940, 0), (1, 9, 0, -2147483648, 2147483647, 0), (1, 7, 0, -2147483648, 2147483647, 0), (2, 3, 10, 1, 0, 0), (2, 6, 4, 1, 0, 0), (2, 9, 7, 1, 0, 0)], 0, 0), (5, [(13, 10, 25, 0)])),
  (15, ([(1, 8, 0), (0, 0, 0), (0, 0, 0), (0, 0, 0)], [(0, 0, 0)], [(1, 4, 0, 0, 940, 0), (1, 10, 0, 0, 24, 0), (1, 7, 0, -2147483648, 2147483647, 0), (1, 0, 0, 0, 1, 0)], 0, 0), (4, [(13, 10, 25, 0)])),
  (18, ([(1, 8, 0), (0, 0, 0), (0, 0, 0), (0, 0, 0)], [], [(1, 4, 0, 0, 940, 0), (1, 10, 0, 0, 24, 0), (1, 7, 0, -2147483648, 2147483647, 0)], 0, 0), (3, [])),
  (20, ([(1, 8, 0), (0, 0, 0), (0, 0, 0), (0, 0, 0)], [(0, 0, 0)], [(1, 4, 0, 0, 940, 0), (1, 10, 0, 0, 24, 0), (1, 7, 0, -2147483648, 2147483647, 0), (1, 0, 0, 64, 64, 0)], 0, 0), (2, []))]
def kd_X8_kindOfWord_84b65a_2 : List (Nat × sf_D × sf_M) := [(21, ([(1, 8, 0), (0, 0, 0), (0, 0, 0), (0, 0, 0)], [(0, 0, 0), (0, 0, 0)], [(1, 4, 0, 0, 940, 0), (1, 10, 0, 0, 24, 0), (1, 7, 0, -2147483648, 2147483647, 0), (1, 0, 0, 64, 64, 0), (1, 3, 0, 0, 24, 0), (2, 3, 10, 1, 0, 0)], 0, 0), (1, [])),
  (22, ([(1, 8, 0), (0, 0, 0), (0, 0, 0), (0, 0, 0)], [(0, 0, 0)], [(1, 4, 0, 0, 940, 0), (1, 10, 0, 0, 24, 0), (1, 7, 0, -2147483648, 2147483647, 0), (1, 0, 0, 64, 88, 0), (2, 0, 10, 1, 64, 0)], 0, 0), (0, [])),
  (23, ([(1, 8, 0), (0, 0, 0), (0, 0, 0), (0, 0, 0)], [], [(1, 4, 0, 0, 940, 0), (1, 10, 0, 0, 24, 0), (1, 7, 0, -2147483648, 2147483647, 0)], 0, 0), (1, [(13, 10, 25, 0)])),
  (26, ([(1, 8, 0), (0, 0, 0), (0, 0, 0), (0, 0, 0)], [], [(1, 4, 0, 0, 940, 0), (1, 7, 0, -2147483648, 2147483647, 0), (1, 10, 0, 1, 25, 0)], 0, 0), (13, [(13, 10, 25, 0)])),
  (29, ([(1, 8, 0), (0, 0, 0), (0, 0, 0), (0, 0, 0)], [], [(1, 4, 0, 0, 940, 0), (1, 10, 0, 25, 25, 0)], 0, 0), (1, [])),
  (30, ([(1, 8, 0), (0, 0, 0), (0, 0, 0), (0, 0, 0)], [(0, 0, 0)], [(1, 4, 0, 0, 940, 0), (1, 10, 0, 25, 25, 0), (1, 0, 0, 2, 2, 0)], 0, 0), (0, []))]
def kd_X8_kindOfWord_84b65a : List (Nat × sf_D × sf_M) := kd_X8_kindOfWord_84b65a_0 ++ (kd_X8_kindOfWord_84b65a_1 ++ (kd_X8_kindOfWord_84b65a_2))
set_option maxRecDepth 100000 in
theorem kt_X8_kindOfWord_84b65a : sf_chk [kq_X8_isToldWord_0e09af] kq_X8_kindOfWord_84b65a 4 kc_X8_kindOfWord_84b65a kd_X8_kindOfWord_84b65a = true := by decide +kernel
set_option maxRecDepth 100000 in
theorem kl_X8_kindOfWord_84b65a : (kc_X8_kindOfWord_84b65a).map (fun c => (c.1, sf_den ([Z_X8_isToldWord] : List sf_X) c.2)) = L_X8_kindOfWord Z_X8_isToldWord := rfl
theorem ct_X8_kindOfWord_84b65a : sf_ct kq_X8_kindOfWord_84b65a Z_X8_kindOfWord := by
  have h := sf_meth (K := [kq_X8_isToldWord_0e09af]) (E := [Z_X8_isToldWord]) (k := kq_X8_kindOfWord_84b65a) (nL := 4) (C := kc_X8_kindOfWord_84b65a) (D := kd_X8_kindOfWord_84b65a) (fun m k hk => match m, hk with
    | 0, hk => (Option.some.inj hk) ▸ ct_X8_isToldWord_0e09af
    | _ + 1, hk => (by cases hk)) kt_X8_kindOfWord_84b65a
  rw [kl_X8_kindOfWord_84b65a] at h
  exact h
def kq_X9_add_dd8600 : sf_Q := ([(1, 9, 0), (0, 0, 0), (0, 0, 0), (2, 0, 0)], [(1, 3, 0, 1, 250, 0), (1, 6, 0, 0, 940, 0)], none, [(1, 30011, 0, 1, 901, 0)], [(9, 3, 3), (124, 0, 900), (125, 0, 900), (126, 0, 0)])
def kc_X9_add_dd8600 : List (Nat × sf_I) := [(0, 4, [1, 0]),
  (1, 23, [4, 9, 3]),
  (4, 0, [7, 901]),
  (7, 21, [10, 50, 5]),
  (10, 4, [11, 0]),
  (11, 23, [14, 9, 0]),
  (14, 4, [15, 0]),
  (15, 23, [18, 9, 3]),
  (18, 2, [19, 1]),
  (19, 28, [20, 1]),
  (20, 4, [21, 0]),
  (21, 23, [24, 9, 1]),
  (24, 4, [25, 0]),
  (25, 23, [28, 9, 3]),
  (28, 2, [29, 2]),
  (29, 28, [30, 1]),
  (30, 4, [31, 0]),
  (31, 23, [34, 9, 2]),
  (34, 4, [35, 0]),
  (35, 23, [38, 9, 3]),
  (38, 3, [39, 3]),
  (39, 29, [40]),
  (40, 4, [41, 0]),
  (41, 17, [42]),
  (42, 23, [45, 9, 3]),
  (45, 0, [46, 1]),
  (46, 9, [47, 0]),
  (47, 24, [50, 9, 3, 0]),
  (50, 37, [0, 0])]
def kd_X9_add_dd8600_0 : List (Nat × sf_D × sf_M) := [(0, ([(1, 9, 0), (0, 0, 0), (0, 0, 0), (2, 0, 0), (8, 0, 0)], [], [(1, 4, 0, 1, 250, 0), (1, 7, 0, 0, 940, 0)], 0, 0), (28, [])),
  (1, ([(1, 9, 0), (0, 0, 0), (0, 0, 0), (2, 0, 0), (8, 0, 0)], [(1, 9, 0)], [(1, 4, 0, 1, 250, 0), (1, 7, 0, 0, 940, 0)], 0, 0), (27, [])),
  (4, ([(1, 9, 0), (0, 0, 0), (0, 0, 0), (2, 0, 0), (8, 0, 0)], [(0, 0, 901)], [(1, 4, 0, 1, 250, 0), (1, 7, 0, 0, 940, 0), (1, 0, 0, 0, 901, 0), (1, 30011, 0, -2147483648, 2147483647, 0), (2, 0, 30011, 1, 0, 0)], 0, 0), (26, [])),
  (7, ([(1, 9, 0), (0, 0, 0), (0, 0, 0), (2, 0, 0), (8, 0, 0)], [(0, 0, 0), (0, 0, 901)], [(1, 4, 0, 1, 250, 0), (1, 7, 0, 0, 940, 0), (1, 0, 0, 0, 901, 0), (1, 30011, 0, -2147483648, 2147483647, 0), (1, 3, 0, 901, 901, 0), (2, 0, 30011, 1, 0, 0)], 0, 0), (25, [])),
  (10, ([(1, 9, 0), (0, 0, 0), (0, 0, 0), (2, 0, 0), (8, 0, 0)], [], [(1, 4, 0, 1, 250, 0), (1, 7, 0, 0, 940, 0), (1, 30011, 0, 0, 900, 0)], 0, 0), (24, [])),
  (11, ([(1, 9, 0), (0, 0, 0), (0, 0, 0), (2, 0, 0), (8, 0, 0)], [(1, 9, 0)], [(1, 4, 0, 1, 250, 0), (1, 7, 0, 0, 940, 0), (1, 30011, 0, 0, 900, 0)], 0, 0), (23, [])),
  (14, ([(1, 9, 0), (0, 0, 0), (0, 0, 0), (2, 0, 0), (8, 0, 0)], [(1, 124, 0)], [(1, 4, 0, 1, 250, 0), (1, 7, 0, 0, 940, 0), (1, 30011, 0, 0, 900, 0)], 0, 0), (22, []))]
def kd_X9_add_dd8600_1 : List (Nat × sf_D × sf_M) := [(15, ([(1, 9, 0), (0, 0, 0), (0, 0, 0), (2, 0, 0), (8, 0, 0)], [(1, 9, 0), (1, 124, 0)], [(1, 4, 0, 1, 250, 0), (1, 7, 0, 0, 940, 0), (1, 30011, 0, 0, 900, 0)], 0, 0), (21, [])),
  (18, ([(1, 9, 0), (0, 0, 0), (0, 0, 0), (2, 0, 0), (8, 0, 0)], [(0, 0, 901), (1, 124, 0)], [(1, 4, 0, 1, 250, 0), (1, 7, 0, 0, 940, 0), (1, 30011, 0, 0, 900, 0), (1, 3, 0, 0, 900, 0), (2, 3, 30011, 1, 0, 0)], 0, 0), (20, [])),
  (19, ([(1, 9, 0), (0, 0, 0), (0, 0, 0), (2, 0, 0), (8, 0, 0)], [(0, 0, 0), (0, 0, 901), (1, 124, 0)], [(1, 4, 0, 1, 250, 0), (1, 7, 0, 0, 940, 0), (1, 30011, 0, 0, 900, 0), (1, 3, 0, 0, 900, 0), (1, 6, 0, 1, 250, 0), (2, 3, 30011, 1, 0, 0), (2, 6, 4, 1, 0, 0)], 0, 0), (19, [])),
  (20, ([(1, 9, 0), (0, 0, 0), (0, 0, 0), (2, 0, 0), (8, 0, 0)], [], [(1, 4, 0, 1, 250, 0), (1, 7, 0, 0, 940, 0), (1, 30011, 0, 0, 900, 0)], 0, 0), (18, [])),
  (21, ([(1, 9, 0), (0, 0, 0), (0, 0, 0), (2, 0, 0), (8, 0, 0)], [(1, 9, 0)], [(1, 4, 0, 1, 250, 0), (1, 7, 0, 0, 940, 0), (1, 30011, 0, 0, 900, 0)], 0, 0), (17, [])),
  (24, ([(1, 9, 0), (0, 0, 0), (0, 0, 0), (2, 0, 0), (8, 0, 0)], [(1, 125, 0)], [(1, 4, 0, 1, 250, 0), (1, 7, 0, 0, 940, 0), (1, 30011, 0, 0, 900, 0)], 0, 0), (16, []))]
def kd_X9_add_dd8600_2 : List (Nat × sf_D × sf_M) := [(25, ([(1, 9, 0), (0, 0, 0), (0, 0, 0), (2, 0, 0), (8, 0, 0)], [(1, 9, 0), (1, 125, 0)], [(1, 4, 0, 1, 250, 0), (1, 7, 0, 0, 940, 0), (1, 30011, 0, 0, 900, 0)], 0, 0), (15, [])),
  (28, ([(1, 9, 0), (0, 0, 0), (0, 0, 0), (2, 0, 0), (8, 0, 0)], [(0, 0, 901), (1, 125, 0)], [(1, 4, 0, 1, 250, 0), (1, 7, 0, 0, 940, 0), (1, 30011, 0, 0, 900, 0), (1, 3, 0, 0, 900, 0), (2, 3, 30011, 1, 0, 0)], 0, 0), (14, [])),
  (29, ([(1, 9, 0), (0, 0, 0), (0, 0, 0), (2, 0, 0), (8, 0, 0)], [(0, 0, 0), (0, 0, 901), (1, 125, 0)], [(1, 4, 0, 1, 250, 0), (1, 7, 0, 0, 940, 0), (1, 30011, 0, 0, 900, 0), (1, 3, 0, 0, 900, 0), (1, 6, 0, 0, 940, 0), (2, 3, 30011, 1, 0, 0), (2, 6, 7, 1, 0, 0)], 0, 0), (13, [])),
  (30, ([(1, 9, 0), (0, 0, 0), (0, 0, 0), (2, 0, 0), (8, 0, 0)], [], [(1, 4, 0, 1, 250, 0), (1, 7, 0, 0, 940, 0), (1, 30011, 0, 0, 900, 0)], 0, 0), (12, [])),
  (31, ([(1, 9, 0), (0, 0, 0), (0, 0, 0), (2, 0, 0), (8, 0, 0)], [(1, 9, 0)], [(1, 4, 0, 1, 250, 0), (1, 7, 0, 0, 940, 0), (1, 30011, 0, 0, 900, 0)], 0, 0), (11, [])),
  (34, ([(1, 9, 0), (0, 0, 0), (0, 0, 0), (2, 0, 0), (8, 0, 0)], [(1, 126, 0)], [(1, 4, 0, 1, 250, 0), (1, 7, 0, 0, 940, 0), (1, 30011, 0, 0, 900, 0)], 0, 0), (10, []))]
def kd_X9_add_dd8600_3 : List (Nat × sf_D × sf_M) := [(35, ([(1, 9, 0), (0, 0, 0), (0, 0, 0), (2, 0, 0), (8, 0, 0)], [(1, 9, 0), (1, 126, 0)], [(1, 4, 0, 1, 250, 0), (1, 7, 0, 0, 940, 0), (1, 30011, 0, 0, 900, 0)], 0, 0), (9, [])),
  (38, ([(1, 9, 0), (0, 0, 0), (0, 0, 0), (2, 0, 0), (8, 0, 0)], [(0, 0, 901), (1, 126, 0)], [(1, 4, 0, 1, 250, 0), (1, 7, 0, 0, 940, 0), (1, 30011, 0, 0, 900, 0), (1, 3, 0, 0, 900, 0), (2, 3, 30011, 1, 0, 0)], 0, 0), (8, [])),
  (39, ([(1, 9, 0), (0, 0, 0), (0, 0, 0), (2, 0, 0), (8, 0, 0)], [(2, 0, 0), (0, 0, 901), (1, 126, 0)], [(1, 4, 0, 1, 250, 0), (1, 7, 0, 0, 940, 0), (1, 30011, 0, 0, 900, 0), (1, 3, 0, 0, 900, 0), (2, 3, 30011, 1, 0, 0)], 0, 0), (7, [])),
  (40, ([(1, 9, 0), (0, 0, 0), (0, 0, 0), (2, 0, 0), (8, 0, 0)], [], [(1, 4, 0, 1, 250, 0), (1, 7, 0, 0, 940, 0), (1, 30011, 0, 0, 900, 0)], 0, 0), (6, [])),
  (41, ([(1, 9, 0), (0, 0, 0), (0, 0, 0), (2, 0, 0), (8, 0, 0)], [(1, 9, 0)], [(1, 4, 0, 1, 250, 0), (1, 7, 0, 0, 940, 0), (1, 30011, 0, 0, 900, 0)], 0, 0), (5, [])),
  (42, ([(1, 9, 0), (0, 0, 0), (0, 0, 0), (2, 0, 0), (8, 0, 0)], [(1, 9, 0), (1, 9, 0)], [(1, 4, 0, 1, 250, 0), (1, 7, 0, 0, 940, 0), (1, 30011, 0, 0, 900, 0)], 0, 0), (4, []))]
def kd_X9_add_dd8600_4 : List (Nat × sf_D × sf_M) := [(45, ([(1, 9, 0), (0, 0, 0), (0, 0, 0), (2, 0, 0), (8, 0, 0)], [(0, 0, 901), (1, 9, 0)], [(1, 4, 0, 1, 250, 0), (1, 7, 0, 0, 940, 0), (1, 30011, 0, 0, 900, 0), (1, 3, 0, 0, 900, 0), (2, 3, 30011, 1, 0, 0)], 0, 0), (3, [])),
  (46, ([(1, 9, 0), (0, 0, 0), (0, 0, 0), (2, 0, 0), (8, 0, 0)], [(0, 0, 0), (0, 0, 901), (1, 9, 0)], [(1, 4, 0, 1, 250, 0), (1, 7, 0, 0, 940, 0), (1, 30011, 0, 0, 900, 0), (1, 3, 0, 0, 900, 0), (1, 6, 0, 1, 1, 0), (2, 3, 30011, 1, 0, 0)], 0, 0), (2, [])),
  (47, ([(1, 9, 0), (0, 0, 0), (0, 0, 0), (2, 0, 0), (8, 0, 0)], [(0, 0, 0), (1, 9, 0)], [(1, 4, 0, 1, 250, 0), (1, 7, 0, 0, 940, 0), (1, 30011, 0, 0, 900, 0), (1, 3, 0, 1, 901, 0), (2, 3, 30011, 1, 1, 0)], 0, 0), (1, [])),
  (50, ([(1, 9, 0), (0, 0, 0), (0, 0, 0), (2, 0, 0), (8, 0, 0)], [], [(1, 4, 0, 1, 250, 0), (1, 7, 0, 0, 940, 0), (1, 30011, 0, 1, 901, 0)], 0, 0), (0, []))]
def kd_X9_add_dd8600 : List (Nat × sf_D × sf_M) := kd_X9_add_dd8600_0 ++ (kd_X9_add_dd8600_1 ++ (kd_X9_add_dd8600_2 ++ (kd_X9_add_dd8600_3 ++ (kd_X9_add_dd8600_4))))
set_option maxRecDepth 100000 in
theorem kt_X9_add_dd8600 : sf_chk [] kq_X9_add_dd8600 5 kc_X9_add_dd8600 kd_X9_add_dd8600 = true := by decide +kernel
set_option maxRecDepth 100000 in
theorem kl_X9_add_dd8600 : (kc_X9_add_dd8600).map (fun c => (c.1, sf_den ([] : List sf_X) c.2)) = L_X9_add := rfl
theorem ct_X9_add_dd8600 : sf_ct kq_X9_add_dd8600 Z_X9_add := by
  have h := sf_meth (K := []) (E := []) (k := kq_X9_add_dd8600) (nL := 5) (C := kc_X9_add_dd8600) (D := kd_X9_add_dd8600) (fun m k hk => match m, hk with
    | _ + 0, hk => (by cases hk)) kt_X9_add_dd8600
  rw [kl_X9_add_dd8600] at h
  exact h
def kq_X8_cutRun_975ab7 : sf_Q := ([(1, 8, 0), (1, 9, 0)], [], some (0, 0, 0), [(1, 30011, 0, 1, 901, 0), (1, 0, 0, 1, 88, 0)], [(8, 2, 2), (9, 3, 3), (124, 0, 900), (125, 0, 900), (126, 0, 0)])
def kc_X8_cutRun_975ab7 : List (Nat × sf_I) := [(0, 4, [1, 0]),
  (1, 23, [4, 8, 2]),
  (4, 5, [5, 2]),
  (5, 0, [6, 0]),
  (6, 5, [7, 3]),
  (7, 0, [8, 0]),
  (8, 5, [10, 4]),
  (10, 1, [11, 0]),
  (11, 6, [13, 5]),
  (13, 0, [14, 0]),
  (14, 5, [16, 7]),
  (16, 4, [17, 0]),
  (17, 23, [20, 8, 2]),
  (20, 4, [21, 0]),
  (21, 23, [24, 8, 1]),
  (24, 21, [27, 148, 5]),
  (27, 4, [28, 0]),
  (28, 4, [29, 0]),
  (29, 23, [32, 8, 2]),
  (32, 32, [35, 0, 2, 8, 0, 0, 0, 0]),
  (35, 31, [38, 1, 1, 0, 0, 0, 0]),
  (38, 20, [41, 55, 1]),
  (41, 4, [42, 0]),
  (42, 4, [43, 0]),
  (43, 23, [46, 8, 2]),
  (46, 32, [49, 0, 2, 8, 0, 0, 0, 0]),
  (49, 31, [52, 2, 1, 0, 0, 0, 0]),
  (52, 20, [55, 148, 0]),
  (55, 4, [56, 0]),
  (56, 4, [57, 0]),
  (57, 23, [60, 8, 2]),
  (60, 32, [63, 0, 2, 8, 0, 0, 0, 0]),
  (63, 5, [65, 8]),
  (65, 2, [67, 8]),
  (67, 31, [70, 2, 1, 0, 0, 0, 0]),
  (70, 20, [73, 103, 0]),
  (73, 8, [76, 4, 1]),
  (76, 2, [78, 4]),
  (78, 0, [79, 3]),
  (79, 21, [82, 96, 4]),
  (82, 2, [84, 7]),
  (84, 0, [86, 10]),
  (86, 9, [87, 2]),
  (87, 2, [89, 8]),
  (89, 9, [90, 0]),
  (90, 0, [92, 48]),
  (92, 9, [93, 1]),
  (93, 22, [98]),
  (96, 2, [98, 7]),
  (98, 5, [100, 7]),
  (100, 22, [135]),
  (103, 8, [106, 3, 1]),
  (106, 2, [107, 3]),
  (107, 0, [109, 7]),
  (109, 21, [112, 131, 4]),
  (112, 3, [114, 5]),
  (114, 1, [117, 32]),
  (117, 12, [118, 1]),
  (118, 2, [120, 8]),
  (120, 15, [121]),
  (121, 12, [122, 2]),
  (122, 1, [125, 97]),
  (125, 12, [126, 3]),
  (126, 1, [127, 1]),
  (127, 12, [128, 2]),
  (128, 22, [133]),
  (131, 3, [133, 5]),
  (133, 6, [135, 5]),
  (135, 4, [136, 0]),
  (136, 17, [137]),
  (137, 23, [140, 8, 2]),
  (140, 0, [141, 1]),
  (141, 9, [142, 0]),
  (142, 24, [145, 8, 2, 0]),
  (145, 22, [16]),
  (148, 0, [149, 1]),
  (149, 5, [151, 8]),
  (151, 2, [153, 4]),
  (153, 20, [156, 173, 1]),
  (156, 2, [157, 3]),
  (157, 0, [159, 7]),
  (159, 21, [162, 173, 4]),
  (162, 4, [163, 0]),
  (163, 2, [164, 2]),
  (164, 2, [165, 3]),
  (165, 32, [168, 3, 3, 8, 0, 0, 0, 0]),
  (168, 5, [170, 8]),
  (170, 22, [186]),
  (173, 2, [174, 3]),
  (174, 20, [177, 186, 1]),
  (177, 2, [179, 4]),
  (179, 0, [180, 3]),
  (180, 21, [183, 186, 4]),
  (183, 0, [184, 3]),
  (184, 5, [186, 8]),
  (186, 4, [187, 1]),
  (187, 2, [189, 8]),
  (189, 2, [190, 2]),
  (190, 2, [192, 8]),
  (192, 0, [193, 3]),
  (193, 21, [196, 202, 1]),
  (196, 2, [198, 7]),
  (198, 15, [199]),
  (199, 22, [204]),
  (202, 3, [204, 5]),
  (204, 32, [207, 4, 4, 9, 0, 0, 0, 0]),
  (207, 2, [209, 8]),
  (209, 35, [0, 0])]
def kd_X8_cutRun_975ab7_0 : List (Nat × sf_D × sf_M) := [(0, ([(1, 8, 0), (1, 9, 0), (8, 0, 0), (8, 0, 0), (8, 0, 0), (8, 0, 0), (8, 0, 0), (8, 0, 0), (8, 0, 0)], [], [], 0, 0), (141733982865, [])),
  (1, ([(1, 8, 0), (1, 9, 0), (8, 0, 0), (8, 0, 0), (8, 0, 0), (8, 0, 0), (8, 0, 0), (8, 0, 0), (8, 0, 0)], [(1, 8, 0)], [], 0, 0), (141733982864, [])),
  (4, ([(1, 8, 0), (1, 9, 0), (8, 0, 0), (8, 0, 0), (8, 0, 0), (8, 0, 0), (8, 0, 0), (8, 0, 0), (8, 0, 0)], [(0, 0, 940)], [(1, 0, 0, 0, 940, 0), (1, 27008, 0, -2147483648, 2147483647, 0), (2, 0, 27008, 1, 0, 0)], 0, 0), (141733982863, [])),
  (5, ([(1, 8, 0), (1, 9, 0), (0, 0, 0), (8, 0, 0), (8, 0, 0), (8, 0, 0), (8, 0, 0), (8, 0, 0), (8, 0, 0)], [], [(1, 7, 0, 0, 940, 0), (1, 27008, 0, -2147483648, 2147483647, 0), (2, 7, 27008, 1, 0, 0)], 0, 0), (141733982862, [])),
  (6, ([(1, 8, 0), (1, 9, 0), (0, 0, 0), (8, 0, 0), (8, 0, 0), (8, 0, 0), (8, 0, 0), (8, 0, 0), (8, 0, 0)], [(0, 0, 0)], [(1, 7, 0, 0, 940, 0), (1, 27008, 0, -2147483648, 2147483647, 0), (1, 0, 0, 0, 0, 0), (2, 7, 27008, 1, 0, 0)], 0, 0), (141733982861, [])),
  (7, ([(1, 8, 0), (1, 9, 0), (0, 0, 0), (0, 0, 0), (8, 0, 0), (8, 0, 0), (8, 0, 0), (8, 0, 0), (8, 0, 0)], [], [(1, 7, 0, 0, 940, 0), (1, 27008, 0, -2147483648, 2147483647, 0), (1, 10, 0, 0, 0, 0), (2, 7, 27008, 1, 0, 0)], 0, 0), (141733982860, [])),
  (8, ([(1, 8, 0), (1, 9, 0), (0, 0, 0), (0, 0, 0), (8, 0, 0), (8, 0, 0), (8, 0, 0), (8, 0, 0), (8, 0, 0)], [(0, 0, 0)], [(1, 7, 0, 0, 940, 0), (1, 27008, 0, -2147483648, 2147483647, 0), (1, 10, 0, 0, 0, 0), (1, 0, 0, 0, 0, 0), (2, 7, 27008, 1, 0, 0)], 0, 0), (141733982859, []))]
def kd_X8_cutRun_975ab7_1 : List (Nat × sf_D × sf_M) := [(10, ([(1, 8, 0), (1, 9, 0), (0, 0, 0), (0, 0, 0), (0, 0, 0), (8, 0, 0), (8, 0, 0), (8, 0, 0), (8, 0, 0)], [], [(1, 7, 0, 0, 940, 0), (1, 27008, 0, -2147483648, 2147483647, 0), (1, 10, 0, 0, 0, 0), (1, 13, 0, 0, 0, 0), (2, 7, 27008, 1, 0, 0)], 0, 0), (141733982858, [])),
  (11, ([(1, 8, 0), (1, 9, 0), (0, 0, 0), (0, 0, 0), (0, 0, 0), (8, 0, 0), (8, 0, 0), (8, 0, 0), (8, 0, 0)], [(2, 0, 0)], [(1, 7, 0, 0, 940, 0), (1, 27008, 0, -2147483648, 2147483647, 0), (1, 10, 0, 0, 0, 0), (1, 13, 0, 0, 0, 0), (2, 7, 27008, 1, 0, 0)], 0, 0), (141733982857, [])),
  (13, ([(1, 8, 0), (1, 9, 0), (0, 0, 0), (0, 0, 0), (0, 0, 0), (2, 0, 0), (8, 0, 0), (8, 0, 0), (8, 0, 0)], [], [(1, 7, 0, 0, 940, 0), (1, 27008, 0, -2147483648, 2147483647, 0), (1, 10, 0, 0, 0, 0), (1, 13, 0, 0, 0, 0), (2, 7, 27008, 1, 0, 0)], 0, 0), (141733982856, [])),
  (14, ([(1, 8, 0), (1, 9, 0), (0, 0, 0), (0, 0, 0), (0, 0, 0), (2, 0, 0), (8, 0, 0), (8, 0, 0), (8, 0, 0)], [(0, 0, 0)], [(1, 7, 0, 0, 940, 0), (1, 27008, 0, -2147483648, 2147483647, 0), (1, 10, 0, 0, 0, 0), (1, 13, 0, 0, 0, 0), (1, 0, 0, 0, 0, 0), (2, 7, 27008, 1, 0, 0)], 0, 0), (141733982855, []))]
def kd_X8_cutRun_975ab7_2 : List (Nat × sf_D × sf_M) := [(16, ([(1, 8, 0), (1, 9, 0), (0, 0, 0), (0, 0, 0), (0, 0, 0), (2, 0, 0), (8, 0, 0), (0, 0, 0), (8, 0, 0)], [], [(1, 7, 0, 0, 940, 0), (1, 27008, 0, -2147483648, 2147483647, 0), (1, 10, 0, -2147483648, 2147483647, 0), (1, 13, 0, -2147483648, 2147483647, 0), (1, 22, 0, -2147483648, 2147483647, 0)], 0, 0), (46, [(66, 27008, 940, 0)])),
  (17, ([(1, 8, 0), (1, 9, 0), (0, 0, 0), (0, 0, 0), (0, 0, 0), (2, 0, 0), (8, 0, 0), (0, 0, 0), (8, 0, 0)], [(1, 8, 0)], [(1, 7, 0, 0, 940, 0), (1, 27008, 0, -2147483648, 2147483647, 0), (1, 10, 0, -2147483648, 2147483647, 0), (1, 13, 0, -2147483648, 2147483647, 0), (1, 22, 0, -2147483648, 2147483647, 0)], 0, 0), (45, [(66, 27008, 940, 0)])),
  (20, ([(1, 8, 0), (1, 9, 0), (0, 0, 0), (0, 0, 0), (0, 0, 0), (2, 0, 0), (8, 0, 0), (0, 0, 0), (8, 0, 0)], [(0, 0, 940)], [(1, 7, 0, 0, 940, 0), (1, 27008, 0, -2147483648, 2147483647, 0), (1, 10, 0, -2147483648, 2147483647, 0), (1, 13, 0, -2147483648, 2147483647, 0), (1, 22, 0, -2147483648, 2147483647, 0), (1, 0, 0, 0, 940, 0), (2, 0, 27008, 1, 0, 0)], 0, 0), (44, [(66, 27008, 940, 0)])),
  (21, ([(1, 8, 0), (1, 9, 0), (0, 0, 0), (0, 0, 0), (0, 0, 0), (2, 0, 0), (8, 0, 0), (0, 0, 0), (8, 0, 0)], [(1, 8, 0), (0, 0, 940)], [(1, 7, 0, 0, 940, 0), (1, 27008, 0, -2147483648, 2147483647, 0), (1, 10, 0, -2147483648, 2147483647, 0), (1, 13, 0, -2147483648, 2147483647, 0), (1, 22, 0, -2147483648, 2147483647, 0), (1, 0, 0, 0, 940, 0), (2, 0, 27008, 1, 0, 0)], 0, 0), (43, [(66, 27008, 940, 0)]))]
def kd_X8_cutRun_975ab7_3 : List (Nat × sf_D × sf_M) := [(24, ([(1, 8, 0), (1, 9, 0), (0, 0, 0), (0, 0, 0), (0, 0, 0), (2, 0, 0), (8, 0, 0), (0, 0, 0), (8, 0, 0)], [(0, 0, 940), (0, 0, 940)], [(1, 7, 0, 0, 940, 0), (1, 27008, 0, -2147483648, 2147483647, 0), (1, 10, 0, -2147483648, 2147483647, 0), (1, 13, 0, -2147483648, 2147483647, 0), (1, 22, 0, -2147483648, 2147483647, 0), (1, 0, 0, 0, 940, 0), (1, 3, 0, 0, 940, 0), (1, 27005, 0, -2147483648, 2147483647, 0), (2, 0, 27008, 1, 0, 0), (2, 3, 27005, 1, 0, 0)], 0, 0), (42, [(66, 27008, 940, 0)])),
  (27, ([(1, 8, 0), (1, 9, 0), (0, 0, 0), (0, 0, 0), (0, 0, 0), (2, 0, 0), (8, 0, 0), (0, 0, 0), (8, 0, 0)], [], [(1, 7, 0, 0, 940, 0), (1, 27008, 0, 0, 939, 0), (1, 10, 0, -2147483648, 2147483647, 0), (1, 13, 0, -2147483648, 2147483647, 0), (1, 22, 0, -2147483648, 2147483647, 0), (1, 27005, 0, 1, 940, 0)], 0, 0), (41, [(66, 27008, 940, 0)])),
  (28, ([(1, 8, 0), (1, 9, 0), (0, 0, 0), (0, 0, 0), (0, 0, 0), (2, 0, 0), (8, 0, 0), (0, 0, 0), (8, 0, 0)], [(1, 8, 0)], [(1, 7, 0, 0, 940, 0), (1, 27008, 0, 0, 939, 0), (1, 10, 0, -2147483648, 2147483647, 0), (1, 13, 0, -2147483648, 2147483647, 0), (1, 22, 0, -2147483648, 2147483647, 0), (1, 27005, 0, 1, 940, 0)], 0, 0), (40, [(66, 27008, 940, 0)])),
  (29, ([(1, 8, 0), (1, 9, 0), (0, 0, 0), (0, 0, 0), (0, 0, 0), (2, 0, 0), (8, 0, 0), (0, 0, 0), (8, 0, 0)], [(1, 8, 0), (1, 8, 0)], [(1, 7, 0, 0, 940, 0), (1, 27008, 0, 0, 939, 0), (1, 10, 0, -2147483648, 2147483647, 0), (1, 13, 0, -2147483648, 2147483647, 0), (1, 22, 0, -2147483648, 2147483647, 0), (1, 27005, 0, 1, 940, 0)], 0, 0), (39, [(66, 27008, 940, 0)]))]
def kd_X8_cutRun_975ab7_4 : List (Nat × sf_D × sf_M) := [(32, ([(1, 8, 0), (1, 9, 0), (0, 0, 0), (0, 0, 0), (0, 0, 0), (2, 0, 0), (8, 0, 0), (0, 0, 0), (8, 0, 0)], [(0, 0, 940), (1, 8, 0)], [(1, 7, 0, 0, 940, 0), (1, 27008, 0, 0, 939, 0), (1, 10, 0, -2147483648, 2147483647, 0), (1, 13, 0, -2147483648, 2147483647, 0), (1, 22, 0, -2147483648, 2147483647, 0), (1, 27005, 0, 1, 940, 0), (1, 3, 0, 0, 939, 0), (2, 3, 27008, 1, 0, 0)], 0, 0), (38, [(66, 27008, 940, 0)])),
  (35, ([(1, 8, 0), (1, 9, 0), (0, 0, 0), (0, 0, 0), (0, 0, 0), (2, 0, 0), (8, 0, 0), (0, 0, 0), (8, 0, 0)], [(0, 0, 0)], [(1, 7, 0, 0, 940, 0), (1, 27008, 0, 0, 939, 0), (1, 10, 0, -2147483648, 2147483647, 0), (1, 13, 0, -2147483648, 2147483647, 0), (1, 22, 0, -2147483648, 2147483647, 0), (1, 27005, 0, 1, 940, 0), (1, 0, 0, 0, 255, 0)], 0, 0), (37, [(66, 27008, 940, 0)])),
  (38, ([(1, 8, 0), (1, 9, 0), (0, 0, 0), (0, 0, 0), (0, 0, 0), (2, 0, 0), (8, 0, 0), (0, 0, 0), (8, 0, 0)], [(0, 0, 0)], [(1, 7, 0, 0, 940, 0), (1, 27008, 0, 0, 939, 0), (1, 10, 0, -2147483648, 2147483647, 0), (1, 13, 0, -2147483648, 2147483647, 0), (1, 22, 0, -2147483648, 2147483647, 0), (1, 27005, 0, 1, 940, 0), (1, 0, 0, 0, 1, 0)], 0, 0), (36, [(66, 27008, 940, 0)])),
  (41, ([(1, 8, 0), (1, 9, 0), (0, 0, 0), (0, 0, 0), (0, 0, 0), (2, 0, 0), (8, 0, 0), (0, 0, 0), (8, 0, 0)], [], [(1, 7, 0, 0, 940, 0), (1, 27008, 0, 0, 939, 0), (1, 10, 0, -2147483648, 2147483647, 0), (1, 13, 0, -2147483648, 2147483647, 0), (1, 22, 0, -2147483648, 2147483647, 0), (1, 27005, 0, 1, 940, 0)], 0, 0), (35, [(66, 27008, 940, 0)]))]
def kd_X8_cutRun_975ab7_5 : List (Nat × sf_D × sf_M) := [(42, ([(1, 8, 0), (1, 9, 0), (0, 0, 0), (0, 0, 0), (0, 0, 0), (2, 0, 0), (8, 0, 0), (0, 0, 0), (8, 0, 0)], [(1, 8, 0)], [(1, 7, 0, 0, 940, 0), (1, 27008, 0, 0, 939, 0), (1, 10, 0, -2147483648, 2147483647, 0), (1, 13, 0, -2147483648, 2147483647, 0), (1, 22, 0, -2147483648, 2147483647, 0), (1, 27005, 0, 1, 940, 0)], 0, 0), (34, [(66, 27008, 940, 0)])),
  (43, ([(1, 8, 0), (1, 9, 0), (0, 0, 0), (0, 0, 0), (0, 0, 0), (2, 0, 0), (8, 0, 0), (0, 0, 0), (8, 0, 0)], [(1, 8, 0), (1, 8, 0)], [(1, 7, 0, 0, 940, 0), (1, 27008, 0, 0, 939, 0), (1, 10, 0, -2147483648, 2147483647, 0), (1, 13, 0, -2147483648, 2147483647, 0), (1, 22, 0, -2147483648, 2147483647, 0), (1, 27005, 0, 1, 940, 0)], 0, 0), (33, [(66, 27008, 940, 0)])),
  (46, ([(1, 8, 0), (1, 9, 0), (0, 0, 0), (0, 0, 0), (0, 0, 0), (2, 0, 0), (8, 0, 0), (0, 0, 0), (8, 0, 0)], [(0, 0, 940), (1, 8, 0)], [(1, 7, 0, 0, 940, 0), (1, 27008, 0, 0, 939, 0), (1, 10, 0, -2147483648, 2147483647, 0), (1, 13, 0, -2147483648, 2147483647, 0), (1, 22, 0, -2147483648, 2147483647, 0), (1, 27005, 0, 1, 940, 0), (1, 3, 0, 0, 939, 0), (2, 3, 27008, 1, 0, 0)], 0, 0), (32, [(66, 27008, 940, 0)])),
  (49, ([(1, 8, 0), (1, 9, 0), (0, 0, 0), (0, 0, 0), (0, 0, 0), (2, 0, 0), (8, 0, 0), (0, 0, 0), (8, 0, 0)], [(0, 0, 0)], [(1, 7, 0, 0, 940, 0), (1, 27008, 0, 0, 939, 0), (1, 10, 0, -2147483648, 2147483647, 0), (1, 13, 0, -2147483648, 2147483647, 0), (1, 22, 0, -2147483648, 2147483647, 0), (1, 27005, 0, 1, 940, 0), (1, 0, 0, 0, 255, 0)], 0, 0), (31, [(66, 27008, 940, 0)]))]
def kd_X8_cutRun_975ab7_6 : List (Nat × sf_D × sf_M) := [(52, ([(1, 8, 0), (1, 9, 0), (0, 0, 0), (0, 0, 0), (0, 0, 0), (2, 0, 0), (8, 0, 0), (0, 0, 0), (8, 0, 0)], [(0, 0, 0)], [(1, 7, 0, 0, 940, 0), (1, 27008, 0, 0, 939, 0), (1, 10, 0, -2147483648, 2147483647, 0), (1, 13, 0, -2147483648, 2147483647, 0), (1, 22, 0, -2147483648, 2147483647, 0), (1, 27005, 0, 1, 940, 0), (1, 0, 0, 0, 1, 0)], 0, 0), (30, [(66, 27008, 940, 0)])),
  (55, ([(1, 8, 0), (1, 9, 0), (0, 0, 0), (0, 0, 0), (0, 0, 0), (2, 0, 0), (8, 0, 0), (0, 0, 0), (8, 0, 0)], [], [(1, 7, 0, 0, 940, 0), (1, 27008, 0, 0, 939, 0), (1, 10, 0, -2147483648, 2147483647, 0), (1, 13, 0, -2147483648, 2147483647, 0), (1, 22, 0, -2147483648, 2147483647, 0), (1, 27005, 0, 1, 940, 0)], 0, 0), (29, [(66, 27008, 940, 0)])),
  (56, ([(1, 8, 0), (1, 9, 0), (0, 0, 0), (0, 0, 0), (0, 0, 0), (2, 0, 0), (8, 0, 0), (0, 0, 0), (8, 0, 0)], [(1, 8, 0)], [(1, 7, 0, 0, 940, 0), (1, 27008, 0, 0, 939, 0), (1, 10, 0, -2147483648, 2147483647, 0), (1, 13, 0, -2147483648, 2147483647, 0), (1, 22, 0, -2147483648, 2147483647, 0), (1, 27005, 0, 1, 940, 0)], 0, 0), (28, [(66, 27008, 940, 0)])),
  (57, ([(1, 8, 0), (1, 9, 0), (0, 0, 0), (0, 0, 0), (0, 0, 0), (2, 0, 0), (8, 0, 0), (0, 0, 0), (8, 0, 0)], [(1, 8, 0), (1, 8, 0)], [(1, 7, 0, 0, 940, 0), (1, 27008, 0, 0, 939, 0), (1, 10, 0, -2147483648, 2147483647, 0), (1, 13, 0, -2147483648, 2147483647, 0), (1, 22, 0, -2147483648, 2147483647, 0), (1, 27005, 0, 1, 940, 0)], 0, 0), (27, [(66, 27008, 940, 0)]))]
def kd_X8_cutRun_975ab7_7 : List (Nat × sf_D × sf_M) := [(60, ([(1, 8, 0), (1, 9, 0), (0, 0, 0), (0, 0, 0), (0, 0, 0), (2, 0, 0), (8, 0, 0), (0, 0, 0), (8, 0, 0)], [(0, 0, 940), (1, 8, 0)], [(1, 7, 0, 0, 940, 0), (1, 27008, 0, 0, 939, 0), (1, 10, 0, -2147483648, 2147483647, 0), (1, 13, 0, -2147483648, 2147483647, 0), (1, 22, 0, -2147483648, 2147483647, 0), (1, 27005, 0, 1, 940, 0), (1, 3, 0, 0, 939, 0), (2, 3, 27008, 1, 0, 0)], 0, 0), (26, [(66, 27008, 940, 0)])),
  (63, ([(1, 8, 0), (1, 9, 0), (0, 0, 0), (0, 0, 0), (0, 0, 0), (2, 0, 0), (8, 0, 0), (0, 0, 0), (8, 0, 0)], [(0, 0, 0)], [(1, 7, 0, 0, 940, 0), (1, 27008, 0, 0, 939, 0), (1, 10, 0, -2147483648, 2147483647, 0), (1, 13, 0, -2147483648, 2147483647, 0), (1, 22, 0, -2147483648, 2147483647, 0), (1, 27005, 0, 1, 940, 0), (1, 0, 0, 0, 255, 0)], 0, 0), (25, [(66, 27008, 940, 0)])),
  (65, ([(1, 8, 0), (1, 9, 0), (0, 0, 0), (0, 0, 0), (0, 0, 0), (2, 0, 0), (8, 0, 0), (0, 0, 0), (0, 0, 0)], [], [(1, 7, 0, 0, 940, 0), (1, 27008, 0, 0, 939, 0), (1, 10, 0, -2147483648, 2147483647, 0), (1, 13, 0, -2147483648, 2147483647, 0), (1, 22, 0, -2147483648, 2147483647, 0), (1, 27005, 0, 1, 940, 0), (1, 25, 0, 0, 255, 0)], 0, 0), (24, [(66, 27008, 940, 0)]))]
def kd_X8_cutRun_975ab7_8 : List (Nat × sf_D × sf_M) := [(67, ([(1, 8, 0), (1, 9, 0), (0, 0, 0), (0, 0, 0), (0, 0, 0), (2, 0, 0), (8, 0, 0), (0, 0, 0), (0, 0, 0)], [(0, 0, 0)], [(1, 7, 0, 0, 940, 0), (1, 27008, 0, 0, 939, 0), (1, 10, 0, -2147483648, 2147483647, 0), (1, 13, 0, -2147483648, 2147483647, 0), (1, 22, 0, -2147483648, 2147483647, 0), (1, 27005, 0, 1, 940, 0), (1, 25, 0, 0, 255, 0), (1, 0, 0, 0, 255, 0), (2, 0, 25, 1, 0, 0)], 0, 0), (23, [(66, 27008, 940, 0)])),
  (70, ([(1, 8, 0), (1, 9, 0), (0, 0, 0), (0, 0, 0), (0, 0, 0), (2, 0, 0), (8, 0, 0), (0, 0, 0), (0, 0, 0)], [(0, 0, 0)], [(1, 7, 0, 0, 940, 0), (1, 27008, 0, 0, 939, 0), (1, 10, 0, -2147483648, 2147483647, 0), (1, 13, 0, -2147483648, 2147483647, 0), (1, 22, 0, -2147483648, 2147483647, 0), (1, 27005, 0, 1, 940, 0), (1, 25, 0, 0, 255, 0), (1, 0, 0, 0, 1, 0), (3, 0, 25, 48, 57, 0)], 0, 0), (22, [(66, 27008, 940, 0)])),
  (73, ([(1, 8, 0), (1, 9, 0), (0, 0, 0), (0, 0, 0), (0, 0, 0), (2, 0, 0), (8, 0, 0), (0, 0, 0), (0, 0, 0)], [], [(1, 7, 0, 0, 940, 0), (1, 27008, 0, 0, 939, 0), (1, 10, 0, -2147483648, 2147483647, 0), (1, 13, 0, -2147483648, 2147483647, 0), (1, 22, 0, -2147483648, 2147483647, 0), (1, 27005, 0, 1, 940, 0), (1, 25, 0, 48, 57, 0)], 0, 0), (19, [(66, 27008, 940, 0)]))]
def kd_X8_cutRun_975ab7_9 : List (Nat × sf_D × sf_M) := [(76, ([(1, 8, 0), (1, 9, 0), (0, 0, 0), (0, 0, 0), (0, 0, 0), (2, 0, 0), (8, 0, 0), (0, 0, 0), (0, 0, 0)], [], [(1, 7, 0, 0, 940, 0), (1, 27008, 0, 0, 939, 0), (1, 10, 0, -2147483648, 2147483647, 0), (1, 22, 0, -2147483648, 2147483647, 0), (1, 27005, 0, 1, 940, 0), (1, 25, 0, 48, 57, 0), (1, 13, 0, -2147483648, 2147483647, 0)], 0, 0), (18, [(66, 27008, 940, 0)])),
  (78, ([(1, 8, 0), (1, 9, 0), (0, 0, 0), (0, 0, 0), (0, 0, 0), (2, 0, 0), (8, 0, 0), (0, 0, 0), (0, 0, 0)], [(0, 0, 0)], [(1, 7, 0, 0, 940, 0), (1, 27008, 0, 0, 939, 0), (1, 10, 0, -2147483648, 2147483647, 0), (1, 22, 0, -2147483648, 2147483647, 0), (1, 27005, 0, 1, 940, 0), (1, 25, 0, 48, 57, 0), (1, 13, 0, -2147483648, 2147483647, 0), (1, 0, 0, -2147483648, 2147483647, 0), (2, 0, 13, 1, 0, 0)], 0, 0), (17, [(66, 27008, 940, 0)])),
  (79, ([(1, 8, 0), (1, 9, 0), (0, 0, 0), (0, 0, 0), (0, 0, 0), (2, 0, 0), (8, 0, 0), (0, 0, 0), (0, 0, 0)], [(0, 0, 0), (0, 0, 0)], [(1, 7, 0, 0, 940, 0), (1, 27008, 0, 0, 939, 0), (1, 10, 0, -2147483648, 2147483647, 0), (1, 22, 0, -2147483648, 2147483647, 0), (1, 27005, 0, 1, 940, 0), (1, 25, 0, 48, 57, 0), (1, 13, 0, -2147483648, 2147483647, 0), (1, 0, 0, -2147483648, 2147483647, 0), (1, 3, 0, 3, 3, 0), (2, 0, 13, 1, 0, 0)], 0, 0), (16, [(66, 27008, 940, 0)]))]
def kd_X8_cutRun_975ab7_10 : List (Nat × sf_D × sf_M) := [(82, ([(1, 8, 0), (1, 9, 0), (0, 0, 0), (0, 0, 0), (0, 0, 0), (2, 0, 0), (8, 0, 0), (0, 0, 0), (0, 0, 0)], [], [(1, 7, 0, 0, 940, 0), (1, 27008, 0, 0, 939, 0), (1, 10, 0, -2147483648, 2147483647, 0), (1, 22, 0, -2147483648, 2147483647, 0), (1, 27005, 0, 1, 940, 0), (1, 25, 0, 48, 57, 0), (1, 13, 0, -2147483648, 3, 0)], 0, 0), (15, [(66, 27008, 940, 0)])),
  (84, ([(1, 8, 0), (1, 9, 0), (0, 0, 0), (0, 0, 0), (0, 0, 0), (2, 0, 0), (8, 0, 0), (0, 0, 0), (0, 0, 0)], [(0, 0, 0)], [(1, 7, 0, 0, 940, 0), (1, 27008, 0, 0, 939, 0), (1, 10, 0, -2147483648, 2147483647, 0), (1, 22, 0, -2147483648, 2147483647, 0), (1, 27005, 0, 1, 940, 0), (1, 25, 0, 48, 57, 0), (1, 13, 0, -2147483648, 3, 0), (1, 0, 0, -2147483648, 2147483647, 0), (2, 0, 22, 1, 0, 0)], 0, 0), (14, [(66, 27008, 940, 0)])),
  (86, ([(1, 8, 0), (1, 9, 0), (0, 0, 0), (0, 0, 0), (0, 0, 0), (2, 0, 0), (8, 0, 0), (0, 0, 0), (0, 0, 0)], [(0, 0, 0), (0, 0, 0)], [(1, 7, 0, 0, 940, 0), (1, 27008, 0, 0, 939, 0), (1, 10, 0, -2147483648, 2147483647, 0), (1, 22, 0, -2147483648, 2147483647, 0), (1, 27005, 0, 1, 940, 0), (1, 25, 0, 48, 57, 0), (1, 13, 0, -2147483648, 3, 0), (1, 0, 0, -2147483648, 2147483647, 0), (1, 3, 0, 10, 10, 0), (2, 0, 22, 1, 0, 0)], 0, 0), (13, [(66, 27008, 940, 0)]))]
def kd_X8_cutRun_975ab7_11 : List (Nat × sf_D × sf_M) := [(87, ([(1, 8, 0), (1, 9, 0), (0, 0, 0), (0, 0, 0), (0, 0, 0), (2, 0, 0), (8, 0, 0), (0, 0, 0), (0, 0, 0)], [(0, 0, 0)], [(1, 7, 0, 0, 940, 0), (1, 27008, 0, 0, 939, 0), (1, 10, 0, -2147483648, 2147483647, 0), (1, 22, 0, -2147483648, 2147483647, 0), (1, 27005, 0, 1, 940, 0), (1, 25, 0, 48, 57, 0), (1, 13, 0, -2147483648, 3, 0), (1, 0, 0, -2147483648, 2147483647, 0)], 0, 0), (12, [(66, 27008, 940, 0)])),
  (89, ([(1, 8, 0), (1, 9, 0), (0, 0, 0), (0, 0, 0), (0, 0, 0), (2, 0, 0), (8, 0, 0), (0, 0, 0), (0, 0, 0)], [(0, 0, 0), (0, 0, 0)], [(1, 7, 0, 0, 940, 0), (1, 27008, 0, 0, 939, 0), (1, 10, 0, -2147483648, 2147483647, 0), (1, 22, 0, -2147483648, 2147483647, 0), (1, 27005, 0, 1, 940, 0), (1, 25, 0, 48, 57, 0), (1, 13, 0, -2147483648, 3, 0), (1, 0, 0, -2147483648, 2147483647, 0), (1, 3, 0, 48, 57, 0), (2, 3, 25, 1, 0, 0)], 0, 0), (11, [(66, 27008, 940, 0)])),
  (90, ([(1, 8, 0), (1, 9, 0), (0, 0, 0), (0, 0, 0), (0, 0, 0), (2, 0, 0), (8, 0, 0), (0, 0, 0), (0, 0, 0)], [(0, 0, 0)], [(1, 7, 0, 0, 940, 0), (1, 27008, 0, 0, 939, 0), (1, 10, 0, -2147483648, 2147483647, 0), (1, 22, 0, -2147483648, 2147483647, 0), (1, 27005, 0, 1, 940, 0), (1, 25, 0, 48, 57, 0), (1, 13, 0, -2147483648, 3, 0), (1, 0, 0, -2147483648, 2147483647, 0)], 0, 0), (10, [(66, 27008, 940, 0)]))]
def kd_X8_cutRun_975ab7_12 : List (Nat × sf_D × sf_M) := [(92, ([(1, 8, 0), (1, 9, 0), (0, 0, 0), (0, 0, 0), (0, 0, 0), (2, 0, 0), (8, 0, 0), (0, 0, 0), (0, 0, 0)], [(0, 0, 0), (0, 0, 0)], [(1, 7, 0, 0, 940, 0), (1, 27008, 0, 0, 939, 0), (1, 10, 0, -2147483648, 2147483647, 0), (1, 22, 0, -2147483648, 2147483647, 0), (1, 27005, 0, 1, 940, 0), (1, 25, 0, 48, 57, 0), (1, 13, 0, -2147483648, 3, 0), (1, 0, 0, -2147483648, 2147483647, 0), (1, 3, 0, 48, 48, 0)], 0, 0), (9, [(66, 27008, 940, 0)])),
  (93, ([(1, 8, 0), (1, 9, 0), (0, 0, 0), (0, 0, 0), (0, 0, 0), (2, 0, 0), (8, 0, 0), (0, 0, 0), (0, 0, 0)], [(0, 0, 0)], [(1, 7, 0, 0, 940, 0), (1, 27008, 0, 0, 939, 0), (1, 10, 0, -2147483648, 2147483647, 0), (1, 22, 0, -2147483648, 2147483647, 0), (1, 27005, 0, 1, 940, 0), (1, 25, 0, 48, 57, 0), (1, 13, 0, -2147483648, 3, 0), (1, 0, 0, -2147483648, 2147483647, 0)], 0, 0), (8, [(66, 27008, 940, 0)])),
  (96, ([(1, 8, 0), (1, 9, 0), (0, 0, 0), (0, 0, 0), (0, 0, 0), (2, 0, 0), (8, 0, 0), (0, 0, 0), (0, 0, 0)], [], [(1, 7, 0, 0, 940, 0), (1, 27008, 0, 0, 939, 0), (1, 10, 0, -2147483648, 2147483647, 0), (1, 22, 0, -2147483648, 2147483647, 0), (1, 27005, 0, 1, 940, 0), (1, 25, 0, 48, 57, 0), (1, 13, 0, 4, 2147483647, 0)], 0, 0), (8, [(66, 27008, 940, 0)]))]
def kd_X8_cutRun_975ab7_13 : List (Nat × sf_D × sf_M) := [(98, ([(1, 8, 0), (1, 9, 0), (0, 0, 0), (0, 0, 0), (0, 0, 0), (2, 0, 0), (8, 0, 0), (0, 0, 0), (0, 0, 0)], [(0, 0, 0)], [(1, 7, 0, 0, 940, 0), (1, 27008, 0, 0, 939, 0), (1, 10, 0, -2147483648, 2147483647, 0), (1, 22, 0, -2147483648, 2147483647, 0), (1, 27005, 0, 1, 940, 0), (1, 25, 0, 48, 57, 0), (1, 13, 0, -2147483648, 2147483647, 0), (1, 0, 0, -2147483648, 2147483647, 0)], 0, 0), (7, [(66, 27008, 940, 0)])),
  (100, ([(1, 8, 0), (1, 9, 0), (0, 0, 0), (0, 0, 0), (0, 0, 0), (2, 0, 0), (8, 0, 0), (0, 0, 0), (0, 0, 0)], [], [(1, 7, 0, 0, 940, 0), (1, 27008, 0, 0, 939, 0), (1, 10, 0, -2147483648, 2147483647, 0), (1, 27005, 0, 1, 940, 0), (1, 25, 0, 48, 57, 0), (1, 13, 0, -2147483648, 2147483647, 0), (1, 22, 0, -2147483648, 2147483647, 0)], 0, 0), (6, [(66, 27008, 940, 0)])),
  (103, ([(1, 8, 0), (1, 9, 0), (0, 0, 0), (0, 0, 0), (0, 0, 0), (2, 0, 0), (8, 0, 0), (0, 0, 0), (0, 0, 0)], [], [(1, 7, 0, 0, 940, 0), (1, 27008, 0, 0, 939, 0), (1, 10, 0, -2147483648, 2147483647, 0), (1, 13, 0, -2147483648, 2147483647, 0), (1, 22, 0, -2147483648, 2147483647, 0), (1, 27005, 0, 1, 940, 0), (1, 25, 0, 0, 255, 0)], 0, 0), (21, [(66, 27008, 940, 0)]))]
def kd_X8_cutRun_975ab7_14 : List (Nat × sf_D × sf_M) := [(106, ([(1, 8, 0), (1, 9, 0), (0, 0, 0), (0, 0, 0), (0, 0, 0), (2, 0, 0), (8, 0, 0), (0, 0, 0), (0, 0, 0)], [], [(1, 7, 0, 0, 940, 0), (1, 27008, 0, 0, 939, 0), (1, 13, 0, -2147483648, 2147483647, 0), (1, 22, 0, -2147483648, 2147483647, 0), (1, 27005, 0, 1, 940, 0), (1, 25, 0, 0, 255, 0), (1, 10, 0, -2147483648, 2147483647, 0)], 0, 0), (20, [(66, 27008, 940, 0)])),
  (107, ([(1, 8, 0), (1, 9, 0), (0, 0, 0), (0, 0, 0), (0, 0, 0), (2, 0, 0), (8, 0, 0), (0, 0, 0), (0, 0, 0)], [(0, 0, 0)], [(1, 7, 0, 0, 940, 0), (1, 27008, 0, 0, 939, 0), (1, 13, 0, -2147483648, 2147483647, 0), (1, 22, 0, -2147483648, 2147483647, 0), (1, 27005, 0, 1, 940, 0), (1, 25, 0, 0, 255, 0), (1, 10, 0, -2147483648, 2147483647, 0), (1, 0, 0, -2147483648, 2147483647, 0), (2, 0, 10, 1, 0, 0)], 0, 0), (19, [(66, 27008, 940, 0)])),
  (109, ([(1, 8, 0), (1, 9, 0), (0, 0, 0), (0, 0, 0), (0, 0, 0), (2, 0, 0), (8, 0, 0), (0, 0, 0), (0, 0, 0)], [(0, 0, 0), (0, 0, 0)], [(1, 7, 0, 0, 940, 0), (1, 27008, 0, 0, 939, 0), (1, 13, 0, -2147483648, 2147483647, 0), (1, 22, 0, -2147483648, 2147483647, 0), (1, 27005, 0, 1, 940, 0), (1, 25, 0, 0, 255, 0), (1, 10, 0, -2147483648, 2147483647, 0), (1, 0, 0, -2147483648, 2147483647, 0), (1, 3, 0, 7, 7, 0), (2, 0, 10, 1, 0, 0)], 0, 0), (18, [(66, 27008, 940, 0)]))]
def kd_X8_cutRun_975ab7_15 : List (Nat × sf_D × sf_M) := [(112, ([(1, 8, 0), (1, 9, 0), (0, 0, 0), (0, 0, 0), (0, 0, 0), (2, 0, 0), (8, 0, 0), (0, 0, 0), (0, 0, 0)], [], [(1, 7, 0, 0, 940, 0), (1, 27008, 0, 0, 939, 0), (1, 13, 0, -2147483648, 2147483647, 0), (1, 22, 0, -2147483648, 2147483647, 0), (1, 27005, 0, 1, 940, 0), (1, 25, 0, 0, 255, 0), (1, 10, 0, -2147483648, 7, 0)], 0, 0), (17, [(66, 27008, 940, 0)])),
  (114, ([(1, 8, 0), (1, 9, 0), (0, 0, 0), (0, 0, 0), (0, 0, 0), (2, 0, 0), (8, 0, 0), (0, 0, 0), (0, 0, 0)], [(2, 0, 0)], [(1, 7, 0, 0, 940, 0), (1, 27008, 0, 0, 939, 0), (1, 13, 0, -2147483648, 2147483647, 0), (1, 22, 0, -2147483648, 2147483647, 0), (1, 27005, 0, 1, 940, 0), (1, 25, 0, 0, 255, 0), (1, 10, 0, -2147483648, 7, 0)], 0, 0), (16, [(66, 27008, 940, 0)])),
  (117, ([(1, 8, 0), (1, 9, 0), (0, 0, 0), (0, 0, 0), (0, 0, 0), (2, 0, 0), (8, 0, 0), (0, 0, 0), (0, 0, 0)], [(2, 0, 0), (2, 0, 0)], [(1, 7, 0, 0, 940, 0), (1, 27008, 0, 0, 939, 0), (1, 13, 0, -2147483648, 2147483647, 0), (1, 22, 0, -2147483648, 2147483647, 0), (1, 27005, 0, 1, 940, 0), (1, 25, 0, 0, 255, 0), (1, 10, 0, -2147483648, 7, 0)], 0, 0), (15, [(66, 27008, 940, 0)])),
  (118, ([(1, 8, 0), (1, 9, 0), (0, 0, 0), (0, 0, 0), (0, 0, 0), (2, 0, 0), (8, 0, 0), (0, 0, 0), (0, 0, 0)], [(2, 0, 0)], [(1, 7, 0, 0, 940, 0), (1, 27008, 0, 0, 939, 0), (1, 13, 0, -2147483648, 2147483647, 0), (1, 22, 0, -2147483648, 2147483647, 0), (1, 27005, 0, 1, 940, 0), (1, 25, 0, 0, 255, 0), (1, 10, 0, -2147483648, 7, 0)], 0, 0), (14, [(66, 27008, 940, 0)]))]
def kd_X8_cutRun_975ab7_16 : List (Nat × sf_D × sf_M) := [(120, ([(1, 8, 0), (1, 9, 0), (0, 0, 0), (0, 0, 0), (0, 0, 0), (2, 0, 0), (8, 0, 0), (0, 0, 0), (0, 0, 0)], [(0, 0, 0), (2, 0, 0)], [(1, 7, 0, 0, 940, 0), (1, 27008, 0, 0, 939, 0), (1, 13, 0, -2147483648, 2147483647, 0), (1, 22, 0, -2147483648, 2147483647, 0), (1, 27005, 0, 1, 940, 0), (1, 25, 0, 0, 255, 0), (1, 10, 0, -2147483648, 7, 0), (1, 3, 0, 0, 255, 0), (2, 3, 25, 1, 0, 0)], 0, 0), (13, [(66, 27008, 940, 0)])),
  (121, ([(1, 8, 0), (1, 9, 0), (0, 0, 0), (0, 0, 0), (0, 0, 0), (2, 0, 0), (8, 0, 0), (0, 0, 0), (0, 0, 0)], [(2, 0, 0), (2, 0, 0)], [(1, 7, 0, 0, 940, 0), (1, 27008, 0, 0, 939, 0), (1, 13, 0, -2147483648, 2147483647, 0), (1, 22, 0, -2147483648, 2147483647, 0), (1, 27005, 0, 1, 940, 0), (1, 25, 0, 0, 255, 0), (1, 10, 0, -2147483648, 7, 0)], 0, 0), (12, [(66, 27008, 940, 0)])),
  (122, ([(1, 8, 0), (1, 9, 0), (0, 0, 0), (0, 0, 0), (0, 0, 0), (2, 0, 0), (8, 0, 0), (0, 0, 0), (0, 0, 0)], [(2, 0, 0)], [(1, 7, 0, 0, 940, 0), (1, 27008, 0, 0, 939, 0), (1, 13, 0, -2147483648, 2147483647, 0), (1, 22, 0, -2147483648, 2147483647, 0), (1, 27005, 0, 1, 940, 0), (1, 25, 0, 0, 255, 0), (1, 10, 0, -2147483648, 7, 0)], 0, 0), (11, [(66, 27008, 940, 0)]))]
def kd_X8_cutRun_975ab7_17 : List (Nat × sf_D × sf_M) := [(125, ([(1, 8, 0), (1, 9, 0), (0, 0, 0), (0, 0, 0), (0, 0, 0), (2, 0, 0), (8, 0, 0), (0, 0, 0), (0, 0, 0)], [(2, 0, 0), (2, 0, 0)], [(1, 7, 0, 0, 940, 0), (1, 27008, 0, 0, 939, 0), (1, 13, 0, -2147483648, 2147483647, 0), (1, 22, 0, -2147483648, 2147483647, 0), (1, 27005, 0, 1, 940, 0), (1, 25, 0, 0, 255, 0), (1, 10, 0, -2147483648, 7, 0)], 0, 0), (10, [(66, 27008, 940, 0)])),
  (126, ([(1, 8, 0), (1, 9, 0), (0, 0, 0), (0, 0, 0), (0, 0, 0), (2, 0, 0), (8, 0, 0), (0, 0, 0), (0, 0, 0)], [(2, 0, 0)], [(1, 7, 0, 0, 940, 0), (1, 27008, 0, 0, 939, 0), (1, 13, 0, -2147483648, 2147483647, 0), (1, 22, 0, -2147483648, 2147483647, 0), (1, 27005, 0, 1, 940, 0), (1, 25, 0, 0, 255, 0), (1, 10, 0, -2147483648, 7, 0)], 0, 0), (9, [(66, 27008, 940, 0)])),
  (127, ([(1, 8, 0), (1, 9, 0), (0, 0, 0), (0, 0, 0), (0, 0, 0), (2, 0, 0), (8, 0, 0), (0, 0, 0), (0, 0, 0)], [(2, 0, 0), (2, 0, 0)], [(1, 7, 0, 0, 940, 0), (1, 27008, 0, 0, 939, 0), (1, 13, 0, -2147483648, 2147483647, 0), (1, 22, 0, -2147483648, 2147483647, 0), (1, 27005, 0, 1, 940, 0), (1, 25, 0, 0, 255, 0), (1, 10, 0, -2147483648, 7, 0)], 0, 0), (8, [(66, 27008, 940, 0)])),
  (128, ([(1, 8, 0), (1, 9, 0), (0, 0, 0), (0, 0, 0), (0, 0, 0), (2, 0, 0), (8, 0, 0), (0, 0, 0), (0, 0, 0)], [(2, 0, 0)], [(1, 7, 0, 0, 940, 0), (1, 27008, 0, 0, 939, 0), (1, 13, 0, -2147483648, 2147483647, 0), (1, 22, 0, -2147483648, 2147483647, 0), (1, 27005, 0, 1, 940, 0), (1, 25, 0, 0, 255, 0), (1, 10, 0, -2147483648, 7, 0)], 0, 0), (7, [(66, 27008, 940, 0)]))]
def kd_X8_cutRun_975ab7_18 : List (Nat × sf_D × sf_M) := [(131, ([(1, 8, 0), (1, 9, 0), (0, 0, 0), (0, 0, 0), (0, 0, 0), (2, 0, 0), (8, 0, 0), (0, 0, 0), (0, 0, 0)], [], [(1, 7, 0, 0, 940, 0), (1, 27008, 0, 0, 939, 0), (1, 13, 0, -2147483648, 2147483647, 0), (1, 22, 0, -2147483648, 2147483647, 0), (1, 27005, 0, 1, 940, 0), (1, 25, 0, 0, 255, 0), (1, 10, 0, 8, 2147483647, 0)], 0, 0), (7, [(66, 27008, 940, 0)])),
  (133, ([(1, 8, 0), (1, 9, 0), (0, 0, 0), (0, 0, 0), (0, 0, 0), (2, 0, 0), (8, 0, 0), (0, 0, 0), (0, 0, 0)], [(2, 0, 0)], [(1, 7, 0, 0, 940, 0), (1, 27008, 0, 0, 939, 0), (1, 13, 0, -2147483648, 2147483647, 0), (1, 22, 0, -2147483648, 2147483647, 0), (1, 27005, 0, 1, 940, 0), (1, 25, 0, 0, 255, 0), (1, 10, 0, -2147483648, 2147483647, 0)], 0, 0), (6, [(66, 27008, 940, 0)])),
  (135, ([(1, 8, 0), (1, 9, 0), (0, 0, 0), (0, 0, 0), (0, 0, 0), (2, 0, 0), (8, 0, 0), (0, 0, 0), (0, 0, 0)], [], [(1, 7, 0, 0, 940, 0), (1, 27008, 0, 0, 939, 0), (1, 10, 0, -2147483648, 2147483647, 0), (1, 27005, 0, 1, 940, 0), (1, 25, 0, 0, 255, 0), (1, 13, 0, -2147483648, 2147483647, 0), (1, 22, 0, -2147483648, 2147483647, 0)], 0, 0), (5, [(66, 27008, 940, 0)])),
  (136, ([(1, 8, 0), (1, 9, 0), (0, 0, 0), (0, 0, 0), (0, 0, 0), (2, 0, 0), (8, 0, 0), (0, 0, 0), (0, 0, 0)], [(1, 8, 0)], [(1, 7, 0, 0, 940, 0), (1, 27008, 0, 0, 939, 0), (1, 10, 0, -2147483648, 2147483647, 0), (1, 27005, 0, 1, 940, 0), (1, 25, 0, 0, 255, 0), (1, 13, 0, -2147483648, 2147483647, 0), (1, 22, 0, -2147483648, 2147483647, 0)], 0, 0), (4, [(66, 27008, 940, 0)]))]
def kd_X8_cutRun_975ab7_19 : List (Nat × sf_D × sf_M) := [(137, ([(1, 8, 0), (1, 9, 0), (0, 0, 0), (0, 0, 0), (0, 0, 0), (2, 0, 0), (8, 0, 0), (0, 0, 0), (0, 0, 0)], [(1, 8, 0), (1, 8, 0)], [(1, 7, 0, 0, 940, 0), (1, 27008, 0, 0, 939, 0), (1, 10, 0, -2147483648, 2147483647, 0), (1, 27005, 0, 1, 940, 0), (1, 25, 0, 0, 255, 0), (1, 13, 0, -2147483648, 2147483647, 0), (1, 22, 0, -2147483648, 2147483647, 0)], 0, 0), (3, [(66, 27008, 940, 0)])),
  (140, ([(1, 8, 0), (1, 9, 0), (0, 0, 0), (0, 0, 0), (0, 0, 0), (2, 0, 0), (8, 0, 0), (0, 0, 0), (0, 0, 0)], [(0, 0, 940), (1, 8, 0)], [(1, 7, 0, 0, 940, 0), (1, 27008, 0, 0, 939, 0), (1, 10, 0, -2147483648, 2147483647, 0), (1, 27005, 0, 1, 940, 0), (1, 25, 0, 0, 255, 0), (1, 13, 0, -2147483648, 2147483647, 0), (1, 22, 0, -2147483648, 2147483647, 0), (1, 3, 0, 0, 939, 0), (2, 3, 27008, 1, 0, 0)], 0, 0), (2, [(66, 27008, 940, 0)])),
  (141, ([(1, 8, 0), (1, 9, 0), (0, 0, 0), (0, 0, 0), (0, 0, 0), (2, 0, 0), (8, 0, 0), (0, 0, 0), (0, 0, 0)], [(0, 0, 0), (0, 0, 940), (1, 8, 0)], [(1, 7, 0, 0, 940, 0), (1, 27008, 0, 0, 939, 0), (1, 10, 0, -2147483648, 2147483647, 0), (1, 27005, 0, 1, 940, 0), (1, 25, 0, 0, 255, 0), (1, 13, 0, -2147483648, 2147483647, 0), (1, 22, 0, -2147483648, 2147483647, 0), (1, 3, 0, 0, 939, 0), (1, 6, 0, 1, 1, 0), (2, 3, 27008, 1, 0, 0)], 0, 0), (1, [(66, 27008, 940, 0)]))]
def kd_X8_cutRun_975ab7_20 : List (Nat × sf_D × sf_M) := [(142, ([(1, 8, 0), (1, 9, 0), (0, 0, 0), (0, 0, 0), (0, 0, 0), (2, 0, 0), (8, 0, 0), (0, 0, 0), (0, 0, 0)], [(0, 0, 0), (1, 8, 0)], [(1, 7, 0, 0, 940, 0), (1, 27008, 0, 0, 939, 0), (1, 10, 0, -2147483648, 2147483647, 0), (1, 27005, 0, 1, 940, 0), (1, 25, 0, 0, 255, 0), (1, 13, 0, -2147483648, 2147483647, 0), (1, 22, 0, -2147483648, 2147483647, 0), (1, 3, 0, 1, 940, 0), (2, 3, 27008, 1, 1, 0)], 0, 0), (0, [(66, 27008, 940, 0)])),
  (145, ([(1, 8, 0), (1, 9, 0), (0, 0, 0), (0, 0, 0), (0, 0, 0), (2, 0, 0), (8, 0, 0), (0, 0, 0), (0, 0, 0)], [], [(1, 7, 0, 0, 940, 0), (1, 10, 0, -2147483648, 2147483647, 0), (1, 27005, 0, 1, 940, 0), (1, 25, 0, 0, 255, 0), (1, 13, 0, -2147483648, 2147483647, 0), (1, 22, 0, -2147483648, 2147483647, 0), (1, 27008, 0, 1, 940, 0)], 0, 0), (47, [(66, 27008, 940, 0)])),
  (148, ([(1, 8, 0), (1, 9, 0), (0, 0, 0), (0, 0, 0), (0, 0, 0), (2, 0, 0), (8, 0, 0), (0, 0, 0), (8, 0, 0)], [], [(1, 7, 0, 0, 940, 0), (1, 27008, 0, 0, 940, 0), (1, 10, 0, -2147483648, 2147483647, 0), (1, 13, 0, -2147483648, 2147483647, 0), (1, 22, 0, -2147483648, 2147483647, 0), (1, 27005, 0, 0, 940, 0)], 0, 0), (25, []))]
def kd_X8_cutRun_975ab7_21 : List (Nat × sf_D × sf_M) := [(149, ([(1, 8, 0), (1, 9, 0), (0, 0, 0), (0, 0, 0), (0, 0, 0), (2, 0, 0), (8, 0, 0), (0, 0, 0), (8, 0, 0)], [(0, 0, 0)], [(1, 7, 0, 0, 940, 0), (1, 27008, 0, 0, 940, 0), (1, 10, 0, -2147483648, 2147483647, 0), (1, 13, 0, -2147483648, 2147483647, 0), (1, 22, 0, -2147483648, 2147483647, 0), (1, 27005, 0, 0, 940, 0), (1, 0, 0, 1, 1, 0)], 0, 0), (24, [])),
  (151, ([(1, 8, 0), (1, 9, 0), (0, 0, 0), (0, 0, 0), (0, 0, 0), (2, 0, 0), (8, 0, 0), (0, 0, 0), (0, 0, 0)], [], [(1, 7, 0, 0, 940, 0), (1, 27008, 0, 0, 940, 0), (1, 10, 0, -2147483648, 2147483647, 0), (1, 13, 0, -2147483648, 2147483647, 0), (1, 22, 0, -2147483648, 2147483647, 0), (1, 27005, 0, 0, 940, 0), (1, 25, 0, 1, 1, 0)], 0, 0), (23, [])),
  (153, ([(1, 8, 0), (1, 9, 0), (0, 0, 0), (0, 0, 0), (0, 0, 0), (2, 0, 0), (8, 0, 0), (0, 0, 0), (0, 0, 0)], [(0, 0, 0)], [(1, 7, 0, 0, 940, 0), (1, 27008, 0, 0, 940, 0), (1, 10, 0, -2147483648, 2147483647, 0), (1, 13, 0, -2147483648, 2147483647, 0), (1, 22, 0, -2147483648, 2147483647, 0), (1, 27005, 0, 0, 940, 0), (1, 25, 0, 1, 1, 0), (1, 0, 0, -2147483648, 2147483647, 0), (2, 0, 13, 1, 0, 0)], 0, 0), (22, []))]
def kd_X8_cutRun_975ab7_22 : List (Nat × sf_D × sf_M) := [(156, ([(1, 8, 0), (1, 9, 0), (0, 0, 0), (0, 0, 0), (0, 0, 0), (2, 0, 0), (8, 0, 0), (0, 0, 0), (0, 0, 0)], [], [(1, 7, 0, 0, 940, 0), (1, 27008, 0, 0, 940, 0), (1, 10, 0, -2147483648, 2147483647, 0), (1, 13, 0, 0, 0, 0), (1, 22, 0, -2147483648, 2147483647, 0), (1, 27005, 0, 0, 940, 0), (1, 25, 0, 1, 1, 0)], 0, 0), (21, [])),
  (157, ([(1, 8, 0), (1, 9, 0), (0, 0, 0), (0, 0, 0), (0, 0, 0), (2, 0, 0), (8, 0, 0), (0, 0, 0), (0, 0, 0)], [(0, 0, 0)], [(1, 7, 0, 0, 940, 0), (1, 27008, 0, 0, 940, 0), (1, 10, 0, -2147483648, 2147483647, 0), (1, 13, 0, 0, 0, 0), (1, 22, 0, -2147483648, 2147483647, 0), (1, 27005, 0, 0, 940, 0), (1, 25, 0, 1, 1, 0), (1, 0, 0, -2147483648, 2147483647, 0), (2, 0, 10, 1, 0, 0)], 0, 0), (20, [])),
  (159, ([(1, 8, 0), (1, 9, 0), (0, 0, 0), (0, 0, 0), (0, 0, 0), (2, 0, 0), (8, 0, 0), (0, 0, 0), (0, 0, 0)], [(0, 0, 0), (0, 0, 0)], [(1, 7, 0, 0, 940, 0), (1, 27008, 0, 0, 940, 0), (1, 10, 0, -2147483648, 2147483647, 0), (1, 13, 0, 0, 0, 0), (1, 22, 0, -2147483648, 2147483647, 0), (1, 27005, 0, 0, 940, 0), (1, 25, 0, 1, 1, 0), (1, 0, 0, -2147483648, 2147483647, 0), (1, 3, 0, 7, 7, 0), (2, 0, 10, 1, 0, 0)], 0, 0), (19, []))]
def kd_X8_cutRun_975ab7_23 : List (Nat × sf_D × sf_M) := [(162, ([(1, 8, 0), (1, 9, 0), (0, 0, 0), (0, 0, 0), (0, 0, 0), (2, 0, 0), (8, 0, 0), (0, 0, 0), (0, 0, 0)], [], [(1, 7, 0, 0, 940, 0), (1, 27008, 0, 0, 940, 0), (1, 10, 0, -2147483648, 7, 0), (1, 13, 0, 0, 0, 0), (1, 22, 0, -2147483648, 2147483647, 0), (1, 27005, 0, 0, 940, 0), (1, 25, 0, 1, 1, 0)], 0, 0), (17, [])),
  (163, ([(1, 8, 0), (1, 9, 0), (0, 0, 0), (0, 0, 0), (0, 0, 0), (2, 0, 0), (8, 0, 0), (0, 0, 0), (0, 0, 0)], [(1, 8, 0)], [(1, 7, 0, 0, 940, 0), (1, 27008, 0, 0, 940, 0), (1, 10, 0, -2147483648, 7, 0), (1, 13, 0, 0, 0, 0), (1, 22, 0, -2147483648, 2147483647, 0), (1, 27005, 0, 0, 940, 0), (1, 25, 0, 1, 1, 0)], 0, 0), (16, [])),
  (164, ([(1, 8, 0), (1, 9, 0), (0, 0, 0), (0, 0, 0), (0, 0, 0), (2, 0, 0), (8, 0, 0), (0, 0, 0), (0, 0, 0)], [(0, 0, 0), (1, 8, 0)], [(1, 7, 0, 0, 940, 0), (1, 27008, 0, 0, 940, 0), (1, 10, 0, -2147483648, 7, 0), (1, 13, 0, 0, 0, 0), (1, 22, 0, -2147483648, 2147483647, 0), (1, 27005, 0, 0, 940, 0), (1, 25, 0, 1, 1, 0), (1, 3, 0, 0, 940, 0), (2, 3, 7, 1, 0, 0)], 0, 0), (15, []))]
def kd_X8_cutRun_975ab7_24 : List (Nat × sf_D × sf_M) := [(165, ([(1, 8, 0), (1, 9, 0), (0, 0, 0), (0, 0, 0), (0, 0, 0), (2, 0, 0), (8, 0, 0), (0, 0, 0), (0, 0, 0)], [(0, 0, 0), (0, 0, 0), (1, 8, 0)], [(1, 7, 0, 0, 940, 0), (1, 27008, 0, 0, 940, 0), (1, 10, 0, -2147483648, 7, 0), (1, 13, 0, 0, 0, 0), (1, 22, 0, -2147483648, 2147483647, 0), (1, 27005, 0, 0, 940, 0), (1, 25, 0, 1, 1, 0), (1, 3, 0, 0, 940, 0), (1, 6, 0, -2147483648, 7, 0), (2, 3, 7, 1, 0, 0), (2, 6, 10, 1, 0, 0)], 0, 0), (14, [])),
  (168, ([(1, 8, 0), (1, 9, 0), (0, 0, 0), (0, 0, 0), (0, 0, 0), (2, 0, 0), (8, 0, 0), (0, 0, 0), (0, 0, 0)], [(0, 0, 0)], [(1, 7, 0, 0, 940, 0), (1, 27008, 0, 0, 940, 0), (1, 10, 0, -2147483648, 7, 0), (1, 13, 0, 0, 0, 0), (1, 22, 0, -2147483648, 2147483647, 0), (1, 27005, 0, 0, 940, 0), (1, 25, 0, 1, 1, 0), (1, 0, 0, 2, 88, 0)], 0, 0), (13, [])),
  (170, ([(1, 8, 0), (1, 9, 0), (0, 0, 0), (0, 0, 0), (0, 0, 0), (2, 0, 0), (8, 0, 0), (0, 0, 0), (0, 0, 0)], [], [(1, 7, 0, 0, 940, 0), (1, 27008, 0, 0, 940, 0), (1, 10, 0, -2147483648, 7, 0), (1, 13, 0, 0, 0, 0), (1, 22, 0, -2147483648, 2147483647, 0), (1, 27005, 0, 0, 940, 0), (1, 25, 0, 2, 88, 0)], 0, 0), (12, []))]
def kd_X8_cutRun_975ab7_25 : List (Nat × sf_D × sf_M) := [(173, ([(1, 8, 0), (1, 9, 0), (0, 0, 0), (0, 0, 0), (0, 0, 0), (2, 0, 0), (8, 0, 0), (0, 0, 0), (0, 0, 0)], [], [(1, 7, 0, 0, 940, 0), (1, 27008, 0, 0, 940, 0), (1, 10, 0, -2147483648, 2147483647, 0), (1, 13, 0, -2147483648, 2147483647, 0), (1, 22, 0, -2147483648, 2147483647, 0), (1, 27005, 0, 0, 940, 0), (1, 25, 0, 1, 1, 0)], 0, 0), (18, [])),
  (174, ([(1, 8, 0), (1, 9, 0), (0, 0, 0), (0, 0, 0), (0, 0, 0), (2, 0, 0), (8, 0, 0), (0, 0, 0), (0, 0, 0)], [(0, 0, 0)], [(1, 7, 0, 0, 940, 0), (1, 27008, 0, 0, 940, 0), (1, 10, 0, -2147483648, 2147483647, 0), (1, 13, 0, -2147483648, 2147483647, 0), (1, 22, 0, -2147483648, 2147483647, 0), (1, 27005, 0, 0, 940, 0), (1, 25, 0, 1, 1, 0), (1, 0, 0, -2147483648, 2147483647, 0), (2, 0, 10, 1, 0, 0)], 0, 0), (17, [])),
  (177, ([(1, 8, 0), (1, 9, 0), (0, 0, 0), (0, 0, 0), (0, 0, 0), (2, 0, 0), (8, 0, 0), (0, 0, 0), (0, 0, 0)], [], [(1, 7, 0, 0, 940, 0), (1, 27008, 0, 0, 940, 0), (1, 10, 0, 0, 0, 0), (1, 13, 0, -2147483648, 2147483647, 0), (1, 22, 0, -2147483648, 2147483647, 0), (1, 27005, 0, 0, 940, 0), (1, 25, 0, 1, 1, 0)], 0, 0), (16, []))]
def kd_X8_cutRun_975ab7_26 : List (Nat × sf_D × sf_M) := [(179, ([(1, 8, 0), (1, 9, 0), (0, 0, 0), (0, 0, 0), (0, 0, 0), (2, 0, 0), (8, 0, 0), (0, 0, 0), (0, 0, 0)], [(0, 0, 0)], [(1, 7, 0, 0, 940, 0), (1, 27008, 0, 0, 940, 0), (1, 10, 0, 0, 0, 0), (1, 13, 0, -2147483648, 2147483647, 0), (1, 22, 0, -2147483648, 2147483647, 0), (1, 27005, 0, 0, 940, 0), (1, 25, 0, 1, 1, 0), (1, 0, 0, -2147483648, 2147483647, 0), (2, 0, 13, 1, 0, 0)], 0, 0), (15, [])),
  (180, ([(1, 8, 0), (1, 9, 0), (0, 0, 0), (0, 0, 0), (0, 0, 0), (2, 0, 0), (8, 0, 0), (0, 0, 0), (0, 0, 0)], [(0, 0, 0), (0, 0, 0)], [(1, 7, 0, 0, 940, 0), (1, 27008, 0, 0, 940, 0), (1, 10, 0, 0, 0, 0), (1, 13, 0, -2147483648, 2147483647, 0), (1, 22, 0, -2147483648, 2147483647, 0), (1, 27005, 0, 0, 940, 0), (1, 25, 0, 1, 1, 0), (1, 0, 0, -2147483648, 2147483647, 0), (1, 3, 0, 3, 3, 0), (2, 0, 13, 1, 0, 0)], 0, 0), (14, [])),
  (183, ([(1, 8, 0), (1, 9, 0), (0, 0, 0), (0, 0, 0), (0, 0, 0), (2, 0, 0), (8, 0, 0), (0, 0, 0), (0, 0, 0)], [], [(1, 7, 0, 0, 940, 0), (1, 27008, 0, 0, 940, 0), (1, 10, 0, 0, 0, 0), (1, 13, 0, -2147483648, 3, 0), (1, 22, 0, -2147483648, 2147483647, 0), (1, 27005, 0, 0, 940, 0), (1, 25, 0, 1, 1, 0)], 0, 0), (13, []))]
def kd_X8_cutRun_975ab7_27 : List (Nat × sf_D × sf_M) := [(184, ([(1, 8, 0), (1, 9, 0), (0, 0, 0), (0, 0, 0), (0, 0, 0), (2, 0, 0), (8, 0, 0), (0, 0, 0), (0, 0, 0)], [(0, 0, 0)], [(1, 7, 0, 0, 940, 0), (1, 27008, 0, 0, 940, 0), (1, 10, 0, 0, 0, 0), (1, 13, 0, -2147483648, 3, 0), (1, 22, 0, -2147483648, 2147483647, 0), (1, 27005, 0, 0, 940, 0), (1, 25, 0, 1, 1, 0), (1, 0, 0, 3, 3, 0)], 0, 0), (12, [])),
  (186, ([(1, 8, 0), (1, 9, 0), (0, 0, 0), (0, 0, 0), (0, 0, 0), (2, 0, 0), (8, 0, 0), (0, 0, 0), (0, 0, 0)], [], [(1, 7, 0, 0, 940, 0), (1, 27008, 0, 0, 940, 0), (1, 10, 0, -2147483648, 2147483647, 0), (1, 13, 0, -2147483648, 2147483647, 0), (1, 22, 0, -2147483648, 2147483647, 0), (1, 27005, 0, 0, 940, 0), (1, 25, 0, 1, 88, 0), (3, 25, 10, -2147483648, 7, 1)], 0, 0), (11, [])),
  (187, ([(1, 8, 0), (1, 9, 0), (0, 0, 0), (0, 0, 0), (0, 0, 0), (2, 0, 0), (8, 0, 0), (0, 0, 0), (0, 0, 0)], [(1, 9, 0)], [(1, 7, 0, 0, 940, 0), (1, 27008, 0, 0, 940, 0), (1, 10, 0, -2147483648, 2147483647, 0), (1, 13, 0, -2147483648, 2147483647, 0), (1, 22, 0, -2147483648, 2147483647, 0), (1, 27005, 0, 0, 940, 0), (1, 25, 0, 1, 88, 0), (3, 25, 10, -2147483648, 7, 1)], 0, 0), (10, []))]
def kd_X8_cutRun_975ab7_28 : List (Nat × sf_D × sf_M) := [(189, ([(1, 8, 0), (1, 9, 0), (0, 0, 0), (0, 0, 0), (0, 0, 0), (2, 0, 0), (8, 0, 0), (0, 0, 0), (0, 0, 0)], [(0, 0, 0), (1, 9, 0)], [(1, 7, 0, 0, 940, 0), (1, 27008, 0, 0, 940, 0), (1, 10, 0, -2147483648, 2147483647, 0), (1, 13, 0, -2147483648, 2147483647, 0), (1, 22, 0, -2147483648, 2147483647, 0), (1, 27005, 0, 0, 940, 0), (1, 25, 0, 1, 88, 0), (1, 3, 0, 1, 88, 0), (3, 25, 10, -2147483648, 7, 1), (2, 3, 25, 1, 0, 0)], 0, 0), (9, [])),
  (190, ([(1, 8, 0), (1, 9, 0), (0, 0, 0), (0, 0, 0), (0, 0, 0), (2, 0, 0), (8, 0, 0), (0, 0, 0), (0, 0, 0)], [(0, 0, 0), (0, 0, 0), (1, 9, 0)], [(1, 7, 0, 0, 940, 0), (1, 27008, 0, 0, 940, 0), (1, 10, 0, -2147483648, 2147483647, 0), (1, 13, 0, -2147483648, 2147483647, 0), (1, 22, 0, -2147483648, 2147483647, 0), (1, 27005, 0, 0, 940, 0), (1, 25, 0, 1, 88, 0), (1, 3, 0, 1, 88, 0), (1, 6, 0, 0, 940, 0), (3, 25, 10, -2147483648, 7, 1), (2, 3, 25, 1, 0, 0), (2, 6, 7, 1, 0, 0)], 0, 0), (8, []))]
def kd_X8_cutRun_975ab7_29 : List (Nat × sf_D × sf_M) := [(192, ([(1, 8, 0), (1, 9, 0), (0, 0, 0), (0, 0, 0), (0, 0, 0), (2, 0, 0), (8, 0, 0), (0, 0, 0), (0, 0, 0)], [(0, 0, 0), (0, 0, 0), (0, 0, 0), (1, 9, 0)], [(1, 7, 0, 0, 940, 0), (1, 27008, 0, 0, 940, 0), (1, 10, 0, -2147483648, 2147483647, 0), (1, 13, 0, -2147483648, 2147483647, 0), (1, 22, 0, -2147483648, 2147483647, 0), (1, 27005, 0, 0, 940, 0), (1, 25, 0, 1, 88, 0), (1, 3, 0, 1, 88, 0), (1, 6, 0, 0, 940, 0), (1, 9, 0, 1, 88, 0), (3, 25, 10, -2147483648, 7, 1), (2, 3, 25, 1, 0, 0), (2, 6, 7, 1, 0, 0), (2, 9, 25, 1, 0, 0)], 0, 0), (7, [])),
  (193, ([(1, 8, 0), (1, 9, 0), (0, 0, 0), (0, 0, 0), (0, 0, 0), (2, 0, 0), (8, 0, 0), (0, 0, 0), (0, 0, 0)], [(0, 0, 0), (0, 0, 0), (0, 0, 0), (0, 0, 0), (1, 9, 0)], [(1, 7, 0, 0, 940, 0), (1, 27008, 0, 0, 940, 0), (1, 10, 0, -2147483648, 2147483647, 0), (1, 13, 0, -2147483648, 2147483647, 0), (1, 22, 0, -2147483648, 2147483647, 0), (1, 27005, 0, 0, 940, 0), (1, 25, 0, 1, 88, 0), (1, 3, 0, 1, 88, 0), (1, 6, 0, 0, 940, 0), (1, 9, 0, 1, 88, 0), (1, 12, 0, 3, 3, 0), (3, 25, 10, -2147483648, 7, 1), (2, 3, 25, 1, 0, 0), (2, 6, 7, 1, 0, 0), (2, 9, 25, 1, 0, 0)], 0, 0), (6, []))]
def kd_X8_cutRun_975ab7_30 : List (Nat × sf_D × sf_M) := [(196, ([(1, 8, 0), (1, 9, 0), (0, 0, 0), (0, 0, 0), (0, 0, 0), (2, 0, 0), (8, 0, 0), (0, 0, 0), (0, 0, 0)], [(0, 0, 0), (0, 0, 0), (1, 9, 0)], [(1, 7, 0, 0, 940, 0), (1, 27008, 0, 0, 940, 0), (1, 10, 0, -2147483648, 7, 0), (1, 13, 0, -2147483648, 2147483647, 0), (1, 22, 0, -2147483648, 2147483647, 0), (1, 27005, 0, 0, 940, 0), (1, 25, 0, 3, 3, 0), (1, 3, 0, 3, 3, 0), (1, 6, 0, 0, 940, 0), (2, 3, 25, 1, 0, 0), (2, 6, 7, 1, 0, 0)], 0, 0), (5, [])),
  (198, ([(1, 8, 0), (1, 9, 0), (0, 0, 0), (0, 0, 0), (0, 0, 0), (2, 0, 0), (8, 0, 0), (0, 0, 0), (0, 0, 0)], [(0, 0, 0), (0, 0, 0), (0, 0, 0), (1, 9, 0)], [(1, 7, 0, 0, 940, 0), (1, 27008, 0, 0, 940, 0), (1, 10, 0, -2147483648, 7, 0), (1, 13, 0, -2147483648, 2147483647, 0), (1, 22, 0, -2147483648, 2147483647, 0), (1, 27005, 0, 0, 940, 0), (1, 25, 0, 3, 3, 0), (1, 3, 0, 3, 3, 0), (1, 6, 0, 0, 940, 0), (1, 9, 0, -2147483648, 2147483647, 0), (2, 3, 25, 1, 0, 0), (2, 6, 7, 1, 0, 0), (2, 9, 22, 1, 0, 0)], 0, 0), (4, []))]
def kd_X8_cutRun_975ab7_31 : List (Nat × sf_D × sf_M) := [(199, ([(1, 8, 0), (1, 9, 0), (0, 0, 0), (0, 0, 0), (0, 0, 0), (2, 0, 0), (8, 0, 0), (0, 0, 0), (0, 0, 0)], [(2, 0, 0), (0, 0, 0), (0, 0, 0), (1, 9, 0)], [(1, 7, 0, 0, 940, 0), (1, 27008, 0, 0, 940, 0), (1, 10, 0, -2147483648, 7, 0), (1, 13, 0, -2147483648, 2147483647, 0), (1, 22, 0, -2147483648, 2147483647, 0), (1, 27005, 0, 0, 940, 0), (1, 25, 0, 3, 3, 0), (1, 3, 0, 3, 3, 0), (1, 6, 0, 0, 940, 0), (2, 3, 25, 1, 0, 0), (2, 6, 7, 1, 0, 0)], 0, 0), (3, [])),
  (202, ([(1, 8, 0), (1, 9, 0), (0, 0, 0), (0, 0, 0), (0, 0, 0), (2, 0, 0), (8, 0, 0), (0, 0, 0), (0, 0, 0)], [(0, 0, 0), (0, 0, 0), (1, 9, 0)], [(1, 7, 0, 0, 940, 0), (1, 27008, 0, 0, 940, 0), (1, 10, 0, -2147483648, 2147483647, 0), (1, 13, 0, -2147483648, 2147483647, 0), (1, 22, 0, -2147483648, 2147483647, 0), (1, 27005, 0, 0, 940, 0), (1, 25, 0, 1, 88, 0), (1, 3, 0, 1, 88, 0), (1, 6, 0, 0, 940, 0), (3, 25, 10, -2147483648, 7, 1), (2, 3, 25, 1, 0, 0), (2, 6, 7, 1, 0, 0)], 0, 0), (3, []))]
def kd_X8_cutRun_975ab7_32 : List (Nat × sf_D × sf_M) := [(204, ([(1, 8, 0), (1, 9, 0), (0, 0, 0), (0, 0, 0), (0, 0, 0), (2, 0, 0), (8, 0, 0), (0, 0, 0), (0, 0, 0)], [(2, 0, 0), (0, 0, 0), (0, 0, 0), (1, 9, 0)], [(1, 7, 0, 0, 940, 0), (1, 27008, 0, 0, 940, 0), (1, 10, 0, -2147483648, 2147483647, 0), (1, 13, 0, -2147483648, 2147483647, 0), (1, 22, 0, -2147483648, 2147483647, 0), (1, 27005, 0, 0, 940, 0), (1, 25, 0, 1, 88, 0), (1, 3, 0, 1, 88, 0), (1, 6, 0, 0, 940, 0), (2, 3, 25, 1, 0, 0), (2, 6, 7, 1, 0, 0), (3, 25, 10, -2147483648, 7, 1)], 0, 0), (2, [])),
  (207, ([(1, 8, 0), (1, 9, 0), (0, 0, 0), (0, 0, 0), (0, 0, 0), (2, 0, 0), (8, 0, 0), (0, 0, 0), (0, 0, 0)], [], [(1, 7, 0, 0, 940, 0), (1, 27008, 0, 0, 940, 0), (1, 10, 0, -2147483648, 2147483647, 0), (1, 13, 0, -2147483648, 2147483647, 0), (1, 22, 0, -2147483648, 2147483647, 0), (1, 27005, 0, 0, 940, 0), (1, 25, 0, 1, 88, 0), (1, 30011, 0, 1, 901, 0), (3, 25, 10, -2147483648, 7, 1)], 0, 0), (1, []))]
def kd_X8_cutRun_975ab7_33 : List (Nat × sf_D × sf_M) := [(209, ([(1, 8, 0), (1, 9, 0), (0, 0, 0), (0, 0, 0), (0, 0, 0), (2, 0, 0), (8, 0, 0), (0, 0, 0), (0, 0, 0)], [(0, 0, 0)], [(1, 7, 0, 0, 940, 0), (1, 27008, 0, 0, 940, 0), (1, 10, 0, -2147483648, 2147483647, 0), (1, 13, 0, -2147483648, 2147483647, 0), (1, 22, 0, -2147483648, 2147483647, 0), (1, 27005, 0, 0, 940, 0), (1, 25, 0, 1, 88, 0), (1, 30011, 0, 1, 901, 0), (1, 0, 0, 1, 88, 0), (3, 25, 10, -2147483648, 7, 1), (2, 0, 25, 1, 0, 0)], 0, 0), (0, []))]
def kd_X8_cutRun_975ab7 : List (Nat × sf_D × sf_M) := kd_X8_cutRun_975ab7_0 ++ (kd_X8_cutRun_975ab7_1 ++ (kd_X8_cutRun_975ab7_2 ++ (kd_X8_cutRun_975ab7_3 ++ (kd_X8_cutRun_975ab7_4 ++ (kd_X8_cutRun_975ab7_5 ++ (kd_X8_cutRun_975ab7_6 ++ (kd_X8_cutRun_975ab7_7 ++ (kd_X8_cutRun_975ab7_8 ++ (kd_X8_cutRun_975ab7_9 ++ (kd_X8_cutRun_975ab7_10 ++ (kd_X8_cutRun_975ab7_11 ++ (kd_X8_cutRun_975ab7_12 ++ (kd_X8_cutRun_975ab7_13 ++ (kd_X8_cutRun_975ab7_14 ++ (kd_X8_cutRun_975ab7_15 ++ (kd_X8_cutRun_975ab7_16 ++ (kd_X8_cutRun_975ab7_17 ++ (kd_X8_cutRun_975ab7_18 ++ (kd_X8_cutRun_975ab7_19 ++ (kd_X8_cutRun_975ab7_20 ++ (kd_X8_cutRun_975ab7_21 ++ (kd_X8_cutRun_975ab7_22 ++ (kd_X8_cutRun_975ab7_23 ++ (kd_X8_cutRun_975ab7_24 ++ (kd_X8_cutRun_975ab7_25 ++ (kd_X8_cutRun_975ab7_26 ++ (kd_X8_cutRun_975ab7_27 ++ (kd_X8_cutRun_975ab7_28 ++ (kd_X8_cutRun_975ab7_29 ++ (kd_X8_cutRun_975ab7_30 ++ (kd_X8_cutRun_975ab7_31 ++ (kd_X8_cutRun_975ab7_32 ++ (kd_X8_cutRun_975ab7_33)))))))))))))))))))))))))))))))))
set_option maxRecDepth 100000 in
theorem kt_X8_cutRun_975ab7 : sf_chk [kq_X8_valueAt_f363ad, kq_X8_isLetter_ff66b9, kq_X8_isDigit_ff66b9, kq_X8_kindOfWord_84b65a, kq_X9_add_dd8600] kq_X8_cutRun_975ab7 9 kc_X8_cutRun_975ab7 kd_X8_cutRun_975ab7 = true := by decide +kernel
set_option maxRecDepth 100000 in
theorem kl_X8_cutRun_975ab7 : (kc_X8_cutRun_975ab7).map (fun c => (c.1, sf_den ([Z_X8_valueAt, Z_X8_isLetter, Z_X8_isDigit, Z_X8_kindOfWord, Z_X9_add] : List sf_X) c.2)) = L_X8_cutRun Z_X8_valueAt Z_X8_isLetter Z_X8_isDigit Z_X8_kindOfWord Z_X9_add := rfl
theorem ct_X8_cutRun_975ab7 : sf_ct kq_X8_cutRun_975ab7 Z_X8_cutRun := by
  have h := sf_meth (K := [kq_X8_valueAt_f363ad, kq_X8_isLetter_ff66b9, kq_X8_isDigit_ff66b9, kq_X8_kindOfWord_84b65a, kq_X9_add_dd8600]) (E := [Z_X8_valueAt, Z_X8_isLetter, Z_X8_isDigit, Z_X8_kindOfWord, Z_X9_add]) (k := kq_X8_cutRun_975ab7) (nL := 9) (C := kc_X8_cutRun_975ab7) (D := kd_X8_cutRun_975ab7) (fun m k hk => match m, hk with
    | 0, hk => (Option.some.inj hk) ▸ ct_X8_valueAt_f363ad
    | 1, hk => (Option.some.inj hk) ▸ ct_X8_isLetter_ff66b9
    | 2, hk => (Option.some.inj hk) ▸ ct_X8_isDigit_ff66b9
    | 3, hk => (Option.some.inj hk) ▸ ct_X8_kindOfWord_84b65a
    | 4, hk => (Option.some.inj hk) ▸ ct_X9_add_dd8600
    | _ + 5, hk => (by cases hk)) kt_X8_cutRun_975ab7
  rw [kl_X8_cutRun_975ab7] at h
  exact h
def kq_X8_isSign_ff66b9 : sf_Q := ([(0, 0, 0)], [(1, 0, 0, 0, 255, 0)], some (0, 0, 0), [(1, 0, 0, 0, 1, 0), (3, 0, 3, 40, 62, 0)], [])
def kc_X8_isSign_ff66b9 : List (Nat × sf_I) := [(0, 2, [1, 0]),
  (1, 0, [3, 59]),
  (3, 21, [6, 42, 0]),
  (6, 2, [7, 0]),
  (7, 0, [9, 60]),
  (9, 21, [12, 42, 0]),
  (12, 2, [13, 0]),
  (13, 0, [15, 61]),
  (15, 21, [18, 42, 0]),
  (18, 2, [19, 0]),
  (19, 0, [21, 62]),
  (21, 21, [24, 42, 0]),
  (24, 2, [25, 0]),
  (25, 0, [27, 40]),
  (27, 21, [30, 42, 0]),
  (30, 2, [31, 0]),
  (31, 0, [33, 41]),
  (33, 21, [36, 42, 0]),
  (36, 2, [37, 0]),
  (37, 0, [39, 46]),
  (39, 21, [42, 46, 1]),
  (42, 0, [43, 1]),
  (43, 22, [47]),
  (46, 0, [47, 0]),
  (47, 36, [0, 0])]
def kd_X8_isSign_ff66b9_0 : List (Nat × sf_D × sf_M) := [(0, ([(0, 0, 0)], [], [(1, 1, 0, 0, 255, 0)], 0, 0), (23, [])),
  (1, ([(0, 0, 0)], [(0, 0, 0)], [(1, 1, 0, 0, 255, 0), (1, 0, 0, 0, 255, 0), (2, 0, 1, 1, 0, 0)], 0, 0), (22, [])),
  (3, ([(0, 0, 0)], [(0, 0, 0), (0, 0, 0)], [(1, 1, 0, 0, 255, 0), (1, 0, 0, 0, 255, 0), (1, 3, 0, 59, 59, 0), (2, 0, 1, 1, 0, 0)], 0, 0), (21, [])),
  (6, ([(0, 0, 0)], [], [(1, 1, 0, 0, 255, 0)], 0, 0), (20, [])),
  (7, ([(0, 0, 0)], [(0, 0, 0)], [(1, 1, 0, 0, 255, 0), (1, 0, 0, 0, 255, 0), (2, 0, 1, 1, 0, 0)], 0, 0), (19, [])),
  (9, ([(0, 0, 0)], [(0, 0, 0), (0, 0, 0)], [(1, 1, 0, 0, 255, 0), (1, 0, 0, 0, 255, 0), (1, 3, 0, 60, 60, 0), (2, 0, 1, 1, 0, 0)], 0, 0), (18, [])),
  (12, ([(0, 0, 0)], [], [(1, 1, 0, 0, 255, 0)], 0, 0), (17, [])),
  (13, ([(0, 0, 0)], [(0, 0, 0)], [(1, 1, 0, 0, 255, 0), (1, 0, 0, 0, 255, 0), (2, 0, 1, 1, 0, 0)], 0, 0), (16, [])),
  (15, ([(0, 0, 0)], [(0, 0, 0), (0, 0, 0)], [(1, 1, 0, 0, 255, 0), (1, 0, 0, 0, 255, 0), (1, 3, 0, 61, 61, 0), (2, 0, 1, 1, 0, 0)], 0, 0), (15, [])),
  (18, ([(0, 0, 0)], [], [(1, 1, 0, 0, 255, 0)], 0, 0), (14, [])),
  (19, ([(0, 0, 0)], [(0, 0, 0)], [(1, 1, 0, 0, 255, 0), (1, 0, 0, 0, 255, 0), (2, 0, 1, 1, 0, 0)], 0, 0), (13, []))]
def kd_X8_isSign_ff66b9_1 : List (Nat × sf_D × sf_M) := [(21, ([(0, 0, 0)], [(0, 0, 0), (0, 0, 0)], [(1, 1, 0, 0, 255, 0), (1, 0, 0, 0, 255, 0), (1, 3, 0, 62, 62, 0), (2, 0, 1, 1, 0, 0)], 0, 0), (12, [])),
  (24, ([(0, 0, 0)], [], [(1, 1, 0, 0, 255, 0)], 0, 0), (11, [])),
  (25, ([(0, 0, 0)], [(0, 0, 0)], [(1, 1, 0, 0, 255, 0), (1, 0, 0, 0, 255, 0), (2, 0, 1, 1, 0, 0)], 0, 0), (10, [])),
  (27, ([(0, 0, 0)], [(0, 0, 0), (0, 0, 0)], [(1, 1, 0, 0, 255, 0), (1, 0, 0, 0, 255, 0), (1, 3, 0, 40, 40, 0), (2, 0, 1, 1, 0, 0)], 0, 0), (9, [])),
  (30, ([(0, 0, 0)], [], [(1, 1, 0, 0, 255, 0)], 0, 0), (8, [])),
  (31, ([(0, 0, 0)], [(0, 0, 0)], [(1, 1, 0, 0, 255, 0), (1, 0, 0, 0, 255, 0), (2, 0, 1, 1, 0, 0)], 0, 0), (7, [])),
  (33, ([(0, 0, 0)], [(0, 0, 0), (0, 0, 0)], [(1, 1, 0, 0, 255, 0), (1, 0, 0, 0, 255, 0), (1, 3, 0, 41, 41, 0), (2, 0, 1, 1, 0, 0)], 0, 0), (6, [])),
  (36, ([(0, 0, 0)], [], [(1, 1, 0, 0, 255, 0)], 0, 0), (5, [])),
  (37, ([(0, 0, 0)], [(0, 0, 0)], [(1, 1, 0, 0, 255, 0), (1, 0, 0, 0, 255, 0), (2, 0, 1, 1, 0, 0)], 0, 0), (4, [])),
  (39, ([(0, 0, 0)], [(0, 0, 0), (0, 0, 0)], [(1, 1, 0, 0, 255, 0), (1, 0, 0, 0, 255, 0), (1, 3, 0, 46, 46, 0), (2, 0, 1, 1, 0, 0)], 0, 0), (3, [])),
  (42, ([(0, 0, 0)], [], [(1, 1, 0, 40, 62, 0)], 0, 0), (2, []))]
def kd_X8_isSign_ff66b9_2 : List (Nat × sf_D × sf_M) := [(43, ([(0, 0, 0)], [(0, 0, 0)], [(1, 1, 0, 40, 62, 0), (1, 0, 0, 1, 1, 0)], 0, 0), (1, [])),
  (46, ([(0, 0, 0)], [], [(1, 1, 0, 0, 255, 0)], 0, 0), (1, [])),
  (47, ([(0, 0, 0)], [(0, 0, 0)], [(1, 1, 0, 0, 255, 0), (1, 0, 0, 0, 1, 0), (3, 0, 1, 40, 62, 0)], 0, 0), (0, []))]
def kd_X8_isSign_ff66b9 : List (Nat × sf_D × sf_M) := kd_X8_isSign_ff66b9_0 ++ (kd_X8_isSign_ff66b9_1 ++ (kd_X8_isSign_ff66b9_2))
set_option maxRecDepth 100000 in
theorem kt_X8_isSign_ff66b9 : sf_chk [] kq_X8_isSign_ff66b9 1 kc_X8_isSign_ff66b9 kd_X8_isSign_ff66b9 = true := by decide +kernel
set_option maxRecDepth 100000 in
theorem kl_X8_isSign_ff66b9 : (kc_X8_isSign_ff66b9).map (fun c => (c.1, sf_den ([] : List sf_X) c.2)) = L_X8_isSign := rfl
theorem ct_X8_isSign_ff66b9 : sf_ct kq_X8_isSign_ff66b9 Z_X8_isSign := by
  have h := sf_meth (K := []) (E := []) (k := kq_X8_isSign_ff66b9) (nL := 1) (C := kc_X8_isSign_ff66b9) (D := kd_X8_isSign_ff66b9) (fun m k hk => match m, hk with
    | _ + 0, hk => (by cases hk)) kt_X8_isSign_ff66b9
  rw [kl_X8_isSign_ff66b9] at h
  exact h
def kq_X7_takeGood_71b49c : sf_Q := ([(1, 7, 0), (1, 9, 0)], [], some (0, 0, 0), [(1, 0, 0, -1, 5, 0)], [(9, 4, 9)])
def kc_X7_takeGood_71b49c : List (Nat × sf_I) := [(0, 4, [1, 1]),
  (1, 32, [4, 0, 1, 9, 0, 0, 0, 0]),
  (4, 20, [7, 9, 1]),
  (7, 0, [8, -1]),
  (8, 35, [0, 0]),
  (9, 4, [10, 0]),
  (10, 4, [11, 1]),
  (11, 23, [14, 9, 8]),
  (14, 32, [17, 1, 2, 7, 0, 0, 0, 0]),
  (17, 5, [18, 2]),
  (18, 2, [19, 2]),
  (19, 0, [20, -1]),
  (20, 21, [23, 29, 1]),
  (23, 4, [24, 1]),
  (24, 0, [25, 3]),
  (25, 32, [28, 2, 2, 9, 0, 0, 0, 0]),
  (28, 19, [29]),
  (29, 2, [30, 2]),
  (30, 35, [0, 0])]
def kd_X7_takeGood_71b49c_0 : List (Nat × sf_D × sf_M) := [(0, ([(1, 7, 0), (1, 9, 0), (8, 0, 0)], [], [], 0, 0), (16, [])),
  (1, ([(1, 7, 0), (1, 9, 0), (8, 0, 0)], [(1, 9, 0)], [], 0, 0), (15, [])),
  (4, ([(1, 7, 0), (1, 9, 0), (8, 0, 0)], [(0, 0, 0)], [(1, 0, 0, 0, 1, 0), (3, 0, 30029, 1, 1, 1), (3, 0, 30017, 2, 2, 0)], 0, 0), (14, [])),
  (7, ([(1, 7, 0), (1, 9, 0), (8, 0, 0)], [], [(1, 30029, 0, 1, 1, 0)], 0, 0), (1, [])),
  (8, ([(1, 7, 0), (1, 9, 0), (8, 0, 0)], [(0, 0, 0)], [(1, 30029, 0, 1, 1, 0), (1, 0, 0, -1, -1, 0)], 0, 0), (0, [])),
  (9, ([(1, 7, 0), (1, 9, 0), (8, 0, 0)], [], [(1, 30017, 0, 2, 2, 0)], 0, 0), (13, [])),
  (10, ([(1, 7, 0), (1, 9, 0), (8, 0, 0)], [(1, 7, 0)], [(1, 30017, 0, 2, 2, 0)], 0, 0), (12, [])),
  (11, ([(1, 7, 0), (1, 9, 0), (8, 0, 0)], [(1, 9, 0), (1, 7, 0)], [(1, 30017, 0, 2, 2, 0)], 0, 0), (11, [])),
  (14, ([(1, 7, 0), (1, 9, 0), (8, 0, 0)], [(2, 0, 0), (1, 7, 0)], [(1, 30017, 0, 2, 2, 0)], 0, 0), (10, [])),
  (17, ([(1, 7, 0), (1, 9, 0), (8, 0, 0)], [(0, 0, 0)], [(1, 30017, 0, 2, 2, 0), (1, 0, 0, -1, 5, 0)], 0, 0), (9, [])),
  (18, ([(1, 7, 0), (1, 9, 0), (0, 0, 0)], [], [(1, 30017, 0, 2, 2, 0), (1, 7, 0, -1, 5, 0)], 0, 0), (8, [])),
  (19, ([(1, 7, 0), (1, 9, 0), (0, 0, 0)], [(0, 0, 0)], [(1, 30017, 0, 2, 2, 0), (1, 7, 0, -1, 5, 0), (1, 0, 0, -1, 5, 0), (2, 0, 7, 1, 0, 0)], 0, 0), (7, [])),
  (20, ([(1, 7, 0), (1, 9, 0), (0, 0, 0)], [(0, 0, 0), (0, 0, 0)], [(1, 30017, 0, 2, 2, 0), (1, 7, 0, -1, 5, 0), (1, 0, 0, -1, 5, 0), (1, 3, 0, -1, -1, 0), (2, 0, 7, 1, 0, 0)], 0, 0), (6, [])),
  (23, ([(1, 7, 0), (1, 9, 0), (0, 0, 0)], [], [(1, 30017, 0, 2, 2, 0), (1, 7, 0, -1, -1, 0)], 0, 0), (5, []))]
def kd_X7_takeGood_71b49c_1 : List (Nat × sf_D × sf_M) := [(24, ([(1, 7, 0), (1, 9, 0), (0, 0, 0)], [(1, 9, 0)], [(1, 30017, 0, 2, 2, 0), (1, 7, 0, -1, -1, 0)], 0, 0), (4, [])),
  (25, ([(1, 7, 0), (1, 9, 0), (0, 0, 0)], [(0, 0, 0), (1, 9, 0)], [(1, 30017, 0, 2, 2, 0), (1, 7, 0, -1, -1, 0), (1, 3, 0, 3, 3, 0)], 0, 0), (3, [])),
  (28, ([(1, 7, 0), (1, 9, 0), (0, 0, 0)], [(0, 0, 0)], [(1, 30017, 0, 2, 2, 0), (1, 7, 0, -1, -1, 0), (1, 30029, 0, 3, 3, 0), (1, 0, 0, 0, 0, 0)], 0, 0), (2, [])),
  (29, ([(1, 7, 0), (1, 9, 0), (0, 0, 0)], [], [(1, 30017, 0, 2, 2, 0), (1, 7, 0, -1, 5, 0)], 0, 0), (1, [])),
  (30, ([(1, 7, 0), (1, 9, 0), (0, 0, 0)], [(0, 0, 0)], [(1, 30017, 0, 2, 2, 0), (1, 7, 0, -1, 5, 0), (1, 0, 0, -1, 5, 0), (2, 0, 7, 1, 0, 0)], 0, 0), (0, []))]
def kd_X7_takeGood_71b49c : List (Nat × sf_D × sf_M) := kd_X7_takeGood_71b49c_0 ++ (kd_X7_takeGood_71b49c_1)
set_option maxRecDepth 100000 in
theorem kt_X7_takeGood_71b49c : sf_chk [kq_X9_takeName_eafd3e, kq_X7_goodNamed_7c1a1b, kq_X9_fail_d6f260] kq_X7_takeGood_71b49c 3 kc_X7_takeGood_71b49c kd_X7_takeGood_71b49c = true := by decide +kernel
set_option maxRecDepth 100000 in
theorem kl_X7_takeGood_71b49c : (kc_X7_takeGood_71b49c).map (fun c => (c.1, sf_den ([Z_X9_takeName, Z_X7_goodNamed, Z_X9_fail] : List sf_X) c.2)) = L_X7_takeGood Z_X9_takeName Z_X7_goodNamed Z_X9_fail := rfl
theorem ct_X7_takeGood_71b49c : sf_ct kq_X7_takeGood_71b49c Z_X7_takeGood := by
  have h := sf_meth (K := [kq_X9_takeName_eafd3e, kq_X7_goodNamed_7c1a1b, kq_X9_fail_d6f260]) (E := [Z_X9_takeName, Z_X7_goodNamed, Z_X9_fail]) (k := kq_X7_takeGood_71b49c) (nL := 3) (C := kc_X7_takeGood_71b49c) (D := kd_X7_takeGood_71b49c) (fun m k hk => match m, hk with
    | 0, hk => (Option.some.inj hk) ▸ ct_X9_takeName_eafd3e
    | 1, hk => (Option.some.inj hk) ▸ ct_X7_goodNamed_7c1a1b
    | 2, hk => (Option.some.inj hk) ▸ ct_X9_fail_d6f260
    | _ + 3, hk => (by cases hk)) kt_X7_takeGood_71b49c
  rw [kl_X7_takeGood_71b49c] at h
  exact h
def kq_X9_takeSign_c36856 : sf_Q := ([(1, 9, 0), (0, 0, 0)], [(1, 3, 0, 59, 59, 0)], some (0, 0, 0), [(1, 0, 0, 0, 1, 0), (3, 0, 30029, 1, 1, 1), (3, 0, 30017, 59, 59, 0)], [(9, 4, 9)])
def kc_X9_takeSign_c36856 : List (Nat × sf_I) := [(0, 4, [1, 0]),
  (1, 32, [4, 0, 1, 9, 0, 0, 0, 0]),
  (4, 4, [5, 0]),
  (5, 23, [8, 9, 5]),
  (8, 2, [9, 1]),
  (9, 21, [12, 20, 0]),
  (12, 4, [13, 0]),
  (13, 0, [14, 1]),
  (14, 32, [17, 1, 2, 9, 0, 0, 0, 0]),
  (17, 20, [20, 24, 0]),
  (20, 0, [21, 1]),
  (21, 22, [25]),
  (24, 0, [25, 0]),
  (25, 36, [0, 0])]
def kd_X9_takeSign_c36856_0 : List (Nat × sf_D × sf_M) := [(0, ([(1, 9, 0), (0, 0, 0)], [], [(1, 4, 0, 59, 59, 0)], 0, 0), (11, [])),
  (1, ([(1, 9, 0), (0, 0, 0)], [(1, 9, 0)], [(1, 4, 0, 59, 59, 0)], 0, 0), (10, [])),
  (4, ([(1, 9, 0), (0, 0, 0)], [], [(1, 4, 0, 59, 59, 0)], 0, 0), (9, [])),
  (5, ([(1, 9, 0), (0, 0, 0)], [(1, 9, 0)], [(1, 4, 0, 59, 59, 0)], 0, 0), (8, [])),
  (8, ([(1, 9, 0), (0, 0, 0)], [(0, 0, 2147483647)], [(1, 4, 0, 59, 59, 0), (1, 0, 0, -2147483648, 2147483647, 0), (1, 30017, 0, -2147483648, 2147483647, 0), (2, 0, 30017, 1, 0, 0)], 0, 0), (7, [])),
  (9, ([(1, 9, 0), (0, 0, 0)], [(0, 0, 0), (0, 0, 2147483647)], [(1, 4, 0, 59, 59, 0), (1, 0, 0, -2147483648, 2147483647, 0), (1, 30017, 0, -2147483648, 2147483647, 0), (1, 3, 0, 59, 59, 0), (2, 0, 30017, 1, 0, 0), (2, 3, 4, 1, 0, 0)], 0, 0), (6, [])),
  (12, ([(1, 9, 0), (0, 0, 0)], [], [(1, 4, 0, 59, 59, 0), (1, 30017, 0, -2147483648, 2147483647, 0)], 0, 0), (5, [])),
  (13, ([(1, 9, 0), (0, 0, 0)], [(1, 9, 0)], [(1, 4, 0, 59, 59, 0), (1, 30017, 0, -2147483648, 2147483647, 0)], 0, 0), (4, [])),
  (14, ([(1, 9, 0), (0, 0, 0)], [(0, 0, 0), (1, 9, 0)], [(1, 4, 0, 59, 59, 0), (1, 30017, 0, -2147483648, 2147483647, 0), (1, 3, 0, 1, 1, 0)], 0, 0), (3, [])),
  (17, ([(1, 9, 0), (0, 0, 0)], [(0, 0, 0)], [(1, 4, 0, 59, 59, 0), (1, 30017, 0, -2147483648, 2147483647, 0), (1, 30029, 0, 1, 1, 0), (1, 0, 0, 0, 0, 0)], 0, 0), (2, [])),
  (20, ([(1, 9, 0), (0, 0, 0)], [], [(1, 4, 0, 59, 59, 0), (1, 30017, 0, 59, 59, 0)], 0, 0), (2, []))]
def kd_X9_takeSign_c36856_1 : List (Nat × sf_D × sf_M) := [(21, ([(1, 9, 0), (0, 0, 0)], [(0, 0, 0)], [(1, 4, 0, 59, 59, 0), (1, 30017, 0, 59, 59, 0), (1, 0, 0, 1, 1, 0)], 0, 0), (1, [])),
  (24, ([(1, 9, 0), (0, 0, 0)], [], [(1, 4, 0, 59, 59, 0), (1, 30017, 0, -2147483648, 2147483647, 0), (1, 30029, 0, 1, 1, 0)], 0, 0), (1, [])),
  (25, ([(1, 9, 0), (0, 0, 0)], [(0, 0, 0)], [(1, 4, 0, 59, 59, 0), (1, 30017, 0, -2147483648, 2147483647, 0), (1, 0, 0, 0, 1, 0), (3, 0, 30029, 1, 1, 1), (3, 0, 30017, 59, 59, 0)], 0, 0), (0, []))]
def kd_X9_takeSign_c36856 : List (Nat × sf_D × sf_M) := kd_X9_takeSign_c36856_0 ++ (kd_X9_takeSign_c36856_1)
set_option maxRecDepth 100000 in
theorem kt_X9_takeSign_c36856 : sf_chk [kq_X9_step_eafd3e, kq_X9_fail_c3f7a2] kq_X9_takeSign_c36856 2 kc_X9_takeSign_c36856 kd_X9_takeSign_c36856 = true := by decide +kernel
set_option maxRecDepth 100000 in
theorem kl_X9_takeSign_c36856 : (kc_X9_takeSign_c36856).map (fun c => (c.1, sf_den ([Z_X9_step, Z_X9_fail] : List sf_X) c.2)) = L_X9_takeSign Z_X9_step Z_X9_fail := rfl
theorem ct_X9_takeSign_c36856 : sf_ct kq_X9_takeSign_c36856 Z_X9_takeSign := by
  have h := sf_meth (K := [kq_X9_step_eafd3e, kq_X9_fail_c3f7a2]) (E := [Z_X9_step, Z_X9_fail]) (k := kq_X9_takeSign_c36856) (nL := 2) (C := kc_X9_takeSign_c36856) (D := kd_X9_takeSign_c36856) (fun m k hk => match m, hk with
    | 0, hk => (Option.some.inj hk) ▸ ct_X9_step_eafd3e
    | 1, hk => (Option.some.inj hk) ▸ ct_X9_fail_c3f7a2
    | _ + 2, hk => (by cases hk)) kt_X9_takeSign_c36856
  rw [kl_X9_takeSign_c36856] at h
  exact h
def kq_X7_amountOf_ae6f8b : sf_Q := ([(1, 7, 0), (0, 0, 0), (0, 0, 0)], [(1, 3, 0, 0, 0, 0), (1, 6, 0, 0, 11, 0)], some (0, 0, 0), [(1, 0, 0, 0, 250, 0)], [])
def kc_X7_amountOf_ae6f8b : List (Nat × sf_I) := [(0, 4, [1, 0]),
  (1, 23, [4, 7, 3]),
  (4, 2, [5, 1]),
  (5, 0, [7, 12]),
  (7, 9, [8, 2]),
  (8, 2, [9, 2]),
  (9, 9, [10, 0]),
  (10, 25, [11, 1]),
  (11, 35, [0, 0])]
def kd_X7_amountOf_ae6f8b_0 : List (Nat × sf_D × sf_M) := [(0, ([(1, 7, 0), (0, 0, 0), (0, 0, 0)], [], [(1, 4, 0, 0, 0, 0), (1, 7, 0, 0, 11, 0)], 0, 0), (8, [])),
  (1, ([(1, 7, 0), (0, 0, 0), (0, 0, 0)], [(1, 7, 0)], [(1, 4, 0, 0, 0, 0), (1, 7, 0, 0, 11, 0)], 0, 0), (7, [])),
  (4, ([(1, 7, 0), (0, 0, 0), (0, 0, 0)], [(1, 119, 0)], [(1, 4, 0, 0, 0, 0), (1, 7, 0, 0, 11, 0)], 0, 0), (6, [])),
  (5, ([(1, 7, 0), (0, 0, 0), (0, 0, 0)], [(0, 0, 0), (1, 119, 0)], [(1, 4, 0, 0, 0, 0), (1, 7, 0, 0, 11, 0), (1, 3, 0, 0, 0, 0), (2, 3, 4, 1, 0, 0)], 0, 0), (5, [])),
  (7, ([(1, 7, 0), (0, 0, 0), (0, 0, 0)], [(0, 0, 0), (0, 0, 0), (1, 119, 0)], [(1, 4, 0, 0, 0, 0), (1, 7, 0, 0, 11, 0), (1, 3, 0, 0, 0, 0), (1, 6, 0, 12, 12, 0), (2, 3, 4, 1, 0, 0)], 0, 0), (4, [])),
  (8, ([(1, 7, 0), (0, 0, 0), (0, 0, 0)], [(0, 0, 0), (1, 119, 0)], [(1, 4, 0, 0, 0, 0), (1, 7, 0, 0, 11, 0), (1, 3, 0, 0, 0, 0), (2, 3, 4, 12, 0, 0)], 0, 0), (3, [])),
  (9, ([(1, 7, 0), (0, 0, 0), (0, 0, 0)], [(0, 0, 0), (0, 0, 0), (1, 119, 0)], [(1, 4, 0, 0, 0, 0), (1, 7, 0, 0, 11, 0), (1, 3, 0, 0, 0, 0), (1, 6, 0, 0, 11, 0), (2, 3, 4, 12, 0, 0), (2, 6, 7, 1, 0, 0)], 0, 0), (2, [])),
  (10, ([(1, 7, 0), (0, 0, 0), (0, 0, 0)], [(0, 0, 0), (1, 119, 0)], [(1, 4, 0, 0, 0, 0), (1, 7, 0, 0, 11, 0), (1, 3, 0, 0, 11, 0), (2, 3, 7, 1, 0, 0)], 0, 0), (1, []))]
def kd_X7_amountOf_ae6f8b_1 : List (Nat × sf_D × sf_M) := [(11, ([(1, 7, 0), (0, 0, 0), (0, 0, 0)], [(0, 0, 0)], [(1, 4, 0, 0, 0, 0), (1, 7, 0, 0, 11, 0), (1, 0, 0, 0, 250, 0)], 0, 0), (0, []))]
def kd_X7_amountOf_ae6f8b : List (Nat × sf_D × sf_M) := kd_X7_amountOf_ae6f8b_0 ++ (kd_X7_amountOf_ae6f8b_1)
set_option maxRecDepth 100000 in
theorem kt_X7_amountOf_ae6f8b : sf_chk [] kq_X7_amountOf_ae6f8b 3 kc_X7_amountOf_ae6f8b kd_X7_amountOf_ae6f8b = true := by decide +kernel
set_option maxRecDepth 100000 in
theorem kl_X7_amountOf_ae6f8b : (kc_X7_amountOf_ae6f8b).map (fun c => (c.1, sf_den ([] : List sf_X) c.2)) = L_X7_amountOf := rfl
theorem ct_X7_amountOf_ae6f8b : sf_ct kq_X7_amountOf_ae6f8b Z_X7_amountOf := by
  have h := sf_meth (K := []) (E := []) (k := kq_X7_amountOf_ae6f8b) (nL := 3) (C := kc_X7_amountOf_ae6f8b) (D := kd_X7_amountOf_ae6f8b) (fun m k hk => match m, hk with
    | _ + 0, hk => (by cases hk)) kt_X7_amountOf_ae6f8b
  rw [kl_X7_amountOf_ae6f8b] at h
  exact h
def kq_X6_beginAs_d5e88f : sf_Q := ([(1, 6, 0), (1, 7, 0)], [], none, [(1, 21023, 0, 0, 0, 0), (1, 21026, 0, 0, 0, 0), (1, 21029, 0, 0, 0, 0)], [(6, 7, 9), (149, 0, 11), (150, 0, 11), (151, 0, 11), (152, 0, 11), (153, 0, 7), (154, 0, 7), (155, 0, 63)])
def kc_X6_beginAs_d5e88f : List (Nat × sf_I) := [(0, 0, [1, 0]),
  (1, 5, [2, 2]),
  (2, 2, [3, 2]),
  (3, 0, [5, 12]),
  (5, 21, [8, 47, 5]),
  (8, 4, [9, 0]),
  (9, 23, [12, 6, 0]),
  (12, 2, [13, 2]),
  (13, 4, [14, 1]),
  (14, 0, [15, 0]),
  (15, 2, [16, 2]),
  (16, 32, [19, 0, 3, 7, 0, 0, 0, 0]),
  (19, 28, [20, 1]),
  (20, 4, [21, 0]),
  (21, 23, [24, 6, 1]),
  (24, 2, [25, 2]),
  (25, 0, [26, 0]),
  (26, 28, [27, 1]),
  (27, 4, [28, 0]),
  (28, 23, [31, 6, 2]),
  (31, 2, [32, 2]),
  (32, 0, [33, 0]),
  (33, 28, [34, 1]),
  (34, 4, [35, 0]),
  (35, 23, [38, 6, 3]),
  (38, 2, [39, 2]),
  (39, 0, [40, 0]),
  (40, 28, [41, 1]),
  (41, 8, [44, 2, 1]),
  (44, 22, [2]),
  (47, 0, [48, 0]),
  (48, 5, [49, 2]),
  (49, 2, [50, 2]),
  (50, 0, [52, 8]),
  (52, 21, [55, 80, 5]),
  (55, 4, [56, 0]),
  (56, 23, [59, 6, 4]),
  (59, 2, [60, 2]),
  (60, 4, [61, 1]),
  (61, 23, [64, 7, 2]),
  (64, 2, [65, 2]),
  (65, 25, [66, 1]),
  (66, 28, [67, 1]),
  (67, 4, [68, 0]),
  (68, 23, [71, 6, 5]),
  (71, 2, [72, 2]),
  (72, 0, [73, 0]),
  (73, 28, [74, 1]),
  (74, 8, [77, 2, 1]),
  (77, 22, [49]),
  (80, 0, [81, 0]),
  (81, 5, [82, 2]),
  (82, 2, [83, 2]),
  (83, 0, [85, 64]),
  (85, 21, [88, 101, 5]),
  (88, 4, [89, 0]),
  (89, 23, [92, 6, 6]),
  (92, 2, [93, 2]),
  (93, 0, [94, 0]),
  (94, 28, [95, 1]),
  (95, 8, [98, 2, 1]),
  (98, 22, [82]),
  (101, 4, [102, 0]),
  (102, 0, [103, 0]),
  (103, 24, [106, 6, 7, 0]),
  (106, 4, [107, 0]),
  (107, 0, [108, 0]),
  (108, 24, [111, 6, 8, 0]),
  (111, 4, [112, 0]),
  (112, 0, [113, 0]),
  (113, 24, [116, 6, 9, 0]),
  (116, 37, [0, 0])]
def kd_X6_beginAs_d5e88f_0 : List (Nat × sf_D × sf_M) := [(0, ([(1, 6, 0), (1, 7, 0), (8, 0, 0)], [], [], 0, 0), (1312, [])),
  (1, ([(1, 6, 0), (1, 7, 0), (8, 0, 0)], [(0, 0, 0)], [(1, 0, 0, 0, 0, 0)], 0, 0), (1311, [])),
  (2, ([(1, 6, 0), (1, 7, 0), (0, 0, 0)], [], [(1, 7, 0, 0, 12, 0)], 0, 0), (950, [(30, 7, 12, 0)])),
  (3, ([(1, 6, 0), (1, 7, 0), (0, 0, 0)], [(0, 0, 0)], [(1, 7, 0, 0, 12, 0), (1, 0, 0, 0, 12, 0), (2, 0, 7, 1, 0, 0)], 0, 0), (949, [(30, 7, 12, 0)])),
  (5, ([(1, 6, 0), (1, 7, 0), (0, 0, 0)], [(0, 0, 0), (0, 0, 0)], [(1, 7, 0, 0, 12, 0), (1, 0, 0, 0, 12, 0), (1, 3, 0, 12, 12, 0), (2, 0, 7, 1, 0, 0)], 0, 0), (948, [(30, 7, 12, 0)])),
  (8, ([(1, 6, 0), (1, 7, 0), (0, 0, 0)], [], [(1, 7, 0, 0, 11, 0)], 0, 0), (945, [(30, 7, 12, 0)])),
  (9, ([(1, 6, 0), (1, 7, 0), (0, 0, 0)], [(1, 6, 0)], [(1, 7, 0, 0, 11, 0)], 0, 0), (944, [(30, 7, 12, 0)])),
  (12, ([(1, 6, 0), (1, 7, 0), (0, 0, 0)], [(1, 149, 0)], [(1, 7, 0, 0, 11, 0)], 0, 0), (943, [(30, 7, 12, 0)])),
  (13, ([(1, 6, 0), (1, 7, 0), (0, 0, 0)], [(0, 0, 0), (1, 149, 0)], [(1, 7, 0, 0, 11, 0), (1, 3, 0, 0, 11, 0), (2, 3, 7, 1, 0, 0)], 0, 0), (942, [(30, 7, 12, 0)])),
  (14, ([(1, 6, 0), (1, 7, 0), (0, 0, 0)], [(1, 7, 0), (0, 0, 0), (1, 149, 0)], [(1, 7, 0, 0, 11, 0), (1, 3, 0, 0, 11, 0), (2, 3, 7, 1, 0, 0)], 0, 0), (941, [(30, 7, 12, 0)])),
  (15, ([(1, 6, 0), (1, 7, 0), (0, 0, 0)], [(0, 0, 0), (1, 7, 0), (0, 0, 0), (1, 149, 0)], [(1, 7, 0, 0, 11, 0), (1, 3, 0, 0, 11, 0), (1, 9, 0, 0, 0, 0), (2, 3, 7, 1, 0, 0)], 0, 0), (940, [(30, 7, 12, 0)])),
  (16, ([(1, 6, 0), (1, 7, 0), (0, 0, 0)], [(0, 0, 0), (0, 0, 0), (1, 7, 0), (0, 0, 0), (1, 149, 0)], [(1, 7, 0, 0, 11, 0), (1, 3, 0, 0, 11, 0), (1, 9, 0, 0, 0, 0), (1, 12, 0, 0, 11, 0), (2, 3, 7, 1, 0, 0), (2, 12, 7, 1, 0, 0)], 0, 0), (939, [(30, 7, 12, 0)]))]
def kd_X6_beginAs_d5e88f_1 : List (Nat × sf_D × sf_M) := [(19, ([(1, 6, 0), (1, 7, 0), (0, 0, 0)], [(0, 0, 0), (0, 0, 0), (1, 149, 0)], [(1, 7, 0, 0, 11, 0), (1, 3, 0, 0, 11, 0), (1, 6, 0, 0, 250, 0), (2, 3, 7, 1, 0, 0)], 0, 0), (938, [(30, 7, 12, 0)])),
  (20, ([(1, 6, 0), (1, 7, 0), (0, 0, 0)], [], [(1, 7, 0, 0, 11, 0)], 0, 0), (937, [(30, 7, 12, 0)])),
  (21, ([(1, 6, 0), (1, 7, 0), (0, 0, 0)], [(1, 6, 0)], [(1, 7, 0, 0, 11, 0)], 0, 0), (936, [(30, 7, 12, 0)])),
  (24, ([(1, 6, 0), (1, 7, 0), (0, 0, 0)], [(1, 150, 0)], [(1, 7, 0, 0, 11, 0)], 0, 0), (935, [(30, 7, 12, 0)])),
  (25, ([(1, 6, 0), (1, 7, 0), (0, 0, 0)], [(0, 0, 0), (1, 150, 0)], [(1, 7, 0, 0, 11, 0), (1, 3, 0, 0, 11, 0), (2, 3, 7, 1, 0, 0)], 0, 0), (934, [(30, 7, 12, 0)])),
  (26, ([(1, 6, 0), (1, 7, 0), (0, 0, 0)], [(0, 0, 0), (0, 0, 0), (1, 150, 0)], [(1, 7, 0, 0, 11, 0), (1, 3, 0, 0, 11, 0), (1, 6, 0, 0, 0, 0), (2, 3, 7, 1, 0, 0)], 0, 0), (933, [(30, 7, 12, 0)])),
  (27, ([(1, 6, 0), (1, 7, 0), (0, 0, 0)], [], [(1, 7, 0, 0, 11, 0)], 0, 0), (932, [(30, 7, 12, 0)])),
  (28, ([(1, 6, 0), (1, 7, 0), (0, 0, 0)], [(1, 6, 0)], [(1, 7, 0, 0, 11, 0)], 0, 0), (931, [(30, 7, 12, 0)])),
  (31, ([(1, 6, 0), (1, 7, 0), (0, 0, 0)], [(1, 151, 0)], [(1, 7, 0, 0, 11, 0)], 0, 0), (930, [(30, 7, 12, 0)])),
  (32, ([(1, 6, 0), (1, 7, 0), (0, 0, 0)], [(0, 0, 0), (1, 151, 0)], [(1, 7, 0, 0, 11, 0), (1, 3, 0, 0, 11, 0), (2, 3, 7, 1, 0, 0)], 0, 0), (929, [(30, 7, 12, 0)])),
  (33, ([(1, 6, 0), (1, 7, 0), (0, 0, 0)], [(0, 0, 0), (0, 0, 0), (1, 151, 0)], [(1, 7, 0, 0, 11, 0), (1, 3, 0, 0, 11, 0), (1, 6, 0, 0, 0, 0), (2, 3, 7, 1, 0, 0)], 0, 0), (928, [(30, 7, 12, 0)])),
  (34, ([(1, 6, 0), (1, 7, 0), (0, 0, 0)], [], [(1, 7, 0, 0, 11, 0)], 0, 0), (927, [(30, 7, 12, 0)])),
  (35, ([(1, 6, 0), (1, 7, 0), (0, 0, 0)], [(1, 6, 0)], [(1, 7, 0, 0, 11, 0)], 0, 0), (926, [(30, 7, 12, 0)]))]
def kd_X6_beginAs_d5e88f_2 : List (Nat × sf_D × sf_M) := [(38, ([(1, 6, 0), (1, 7, 0), (0, 0, 0)], [(1, 152, 0)], [(1, 7, 0, 0, 11, 0)], 0, 0), (925, [(30, 7, 12, 0)])),
  (39, ([(1, 6, 0), (1, 7, 0), (0, 0, 0)], [(0, 0, 0), (1, 152, 0)], [(1, 7, 0, 0, 11, 0), (1, 3, 0, 0, 11, 0), (2, 3, 7, 1, 0, 0)], 0, 0), (924, [(30, 7, 12, 0)])),
  (40, ([(1, 6, 0), (1, 7, 0), (0, 0, 0)], [(0, 0, 0), (0, 0, 0), (1, 152, 0)], [(1, 7, 0, 0, 11, 0), (1, 3, 0, 0, 11, 0), (1, 6, 0, 0, 0, 0), (2, 3, 7, 1, 0, 0)], 0, 0), (923, [(30, 7, 12, 0)])),
  (41, ([(1, 6, 0), (1, 7, 0), (0, 0, 0)], [], [(1, 7, 0, 0, 11, 0)], 0, 0), (922, [(30, 7, 12, 0)])),
  (44, ([(1, 6, 0), (1, 7, 0), (0, 0, 0)], [], [(1, 7, 0, 1, 12, 0)], 0, 0), (951, [(30, 7, 12, 0)])),
  (47, ([(1, 6, 0), (1, 7, 0), (0, 0, 0)], [], [(1, 7, 0, 12, 12, 0)], 0, 0), (947, [])),
  (48, ([(1, 6, 0), (1, 7, 0), (0, 0, 0)], [(0, 0, 0)], [(1, 7, 0, 12, 12, 0), (1, 0, 0, 0, 0, 0)], 0, 0), (946, [])),
  (49, ([(1, 6, 0), (1, 7, 0), (0, 0, 0)], [], [(1, 7, 0, 0, 8, 0)], 0, 0), (785, [(20, 7, 8, 0)])),
  (50, ([(1, 6, 0), (1, 7, 0), (0, 0, 0)], [(0, 0, 0)], [(1, 7, 0, 0, 8, 0), (1, 0, 0, 0, 8, 0), (2, 0, 7, 1, 0, 0)], 0, 0), (784, [(20, 7, 8, 0)])),
  (52, ([(1, 6, 0), (1, 7, 0), (0, 0, 0)], [(0, 0, 0), (0, 0, 0)], [(1, 7, 0, 0, 8, 0), (1, 0, 0, 0, 8, 0), (1, 3, 0, 8, 8, 0), (2, 0, 7, 1, 0, 0)], 0, 0), (783, [(20, 7, 8, 0)])),
  (55, ([(1, 6, 0), (1, 7, 0), (0, 0, 0)], [], [(1, 7, 0, 0, 7, 0)], 0, 0), (780, [(20, 7, 8, 0)])),
  (56, ([(1, 6, 0), (1, 7, 0), (0, 0, 0)], [(1, 6, 0)], [(1, 7, 0, 0, 7, 0)], 0, 0), (779, [(20, 7, 8, 0)])),
  (59, ([(1, 6, 0), (1, 7, 0), (0, 0, 0)], [(1, 153, 0)], [(1, 7, 0, 0, 7, 0)], 0, 0), (778, [(20, 7, 8, 0)]))]
def kd_X6_beginAs_d5e88f_3 : List (Nat × sf_D × sf_M) := [(60, ([(1, 6, 0), (1, 7, 0), (0, 0, 0)], [(0, 0, 0), (1, 153, 0)], [(1, 7, 0, 0, 7, 0), (1, 3, 0, 0, 7, 0), (2, 3, 7, 1, 0, 0)], 0, 0), (777, [(20, 7, 8, 0)])),
  (61, ([(1, 6, 0), (1, 7, 0), (0, 0, 0)], [(1, 7, 0), (0, 0, 0), (1, 153, 0)], [(1, 7, 0, 0, 7, 0), (1, 3, 0, 0, 7, 0), (2, 3, 7, 1, 0, 0)], 0, 0), (776, [(20, 7, 8, 0)])),
  (64, ([(1, 6, 0), (1, 7, 0), (0, 0, 0)], [(1, 118, 0), (0, 0, 0), (1, 153, 0)], [(1, 7, 0, 0, 7, 0), (1, 3, 0, 0, 7, 0), (2, 3, 7, 1, 0, 0)], 0, 0), (775, [(20, 7, 8, 0)])),
  (65, ([(1, 6, 0), (1, 7, 0), (0, 0, 0)], [(0, 0, 0), (1, 118, 0), (0, 0, 0), (1, 153, 0)], [(1, 7, 0, 0, 7, 0), (1, 3, 0, 0, 7, 0), (1, 9, 0, 0, 7, 0), (2, 3, 7, 1, 0, 0), (2, 9, 7, 1, 0, 0)], 0, 0), (774, [(20, 7, 8, 0)])),
  (66, ([(1, 6, 0), (1, 7, 0), (0, 0, 0)], [(0, 0, 0), (0, 0, 0), (1, 153, 0)], [(1, 7, 0, 0, 7, 0), (1, 3, 0, 0, 7, 0), (1, 6, 0, -2147483648, 2147483647, 0), (2, 3, 7, 1, 0, 0)], 0, 0), (773, [(20, 7, 8, 0)])),
  (67, ([(1, 6, 0), (1, 7, 0), (0, 0, 0)], [], [(1, 7, 0, 0, 7, 0)], 0, 0), (772, [(20, 7, 8, 0)])),
  (68, ([(1, 6, 0), (1, 7, 0), (0, 0, 0)], [(1, 6, 0)], [(1, 7, 0, 0, 7, 0)], 0, 0), (771, [(20, 7, 8, 0)])),
  (71, ([(1, 6, 0), (1, 7, 0), (0, 0, 0)], [(1, 154, 0)], [(1, 7, 0, 0, 7, 0)], 0, 0), (770, [(20, 7, 8, 0)])),
  (72, ([(1, 6, 0), (1, 7, 0), (0, 0, 0)], [(0, 0, 0), (1, 154, 0)], [(1, 7, 0, 0, 7, 0), (1, 3, 0, 0, 7, 0), (2, 3, 7, 1, 0, 0)], 0, 0), (769, [(20, 7, 8, 0)])),
  (73, ([(1, 6, 0), (1, 7, 0), (0, 0, 0)], [(0, 0, 0), (0, 0, 0), (1, 154, 0)], [(1, 7, 0, 0, 7, 0), (1, 3, 0, 0, 7, 0), (1, 6, 0, 0, 0, 0), (2, 3, 7, 1, 0, 0)], 0, 0), (768, [(20, 7, 8, 0)])),
  (74, ([(1, 6, 0), (1, 7, 0), (0, 0, 0)], [], [(1, 7, 0, 0, 7, 0)], 0, 0), (767, [(20, 7, 8, 0)]))]
def kd_X6_beginAs_d5e88f_4 : List (Nat × sf_D × sf_M) := [(77, ([(1, 6, 0), (1, 7, 0), (0, 0, 0)], [], [(1, 7, 0, 1, 8, 0)], 0, 0), (786, [(20, 7, 8, 0)])),
  (80, ([(1, 6, 0), (1, 7, 0), (0, 0, 0)], [], [(1, 7, 0, 8, 8, 0)], 0, 0), (782, [])),
  (81, ([(1, 6, 0), (1, 7, 0), (0, 0, 0)], [(0, 0, 0)], [(1, 7, 0, 8, 8, 0), (1, 0, 0, 0, 0, 0)], 0, 0), (781, [])),
  (82, ([(1, 6, 0), (1, 7, 0), (0, 0, 0)], [], [(1, 7, 0, 0, 64, 0)], 0, 0), (12, [(12, 7, 64, 0)])),
  (83, ([(1, 6, 0), (1, 7, 0), (0, 0, 0)], [(0, 0, 0)], [(1, 7, 0, 0, 64, 0), (1, 0, 0, 0, 64, 0), (2, 0, 7, 1, 0, 0)], 0, 0), (11, [(12, 7, 64, 0)])),
  (85, ([(1, 6, 0), (1, 7, 0), (0, 0, 0)], [(0, 0, 0), (0, 0, 0)], [(1, 7, 0, 0, 64, 0), (1, 0, 0, 0, 64, 0), (1, 3, 0, 64, 64, 0), (2, 0, 7, 1, 0, 0)], 0, 0), (10, [(12, 7, 64, 0)])),
  (88, ([(1, 6, 0), (1, 7, 0), (0, 0, 0)], [], [(1, 7, 0, 0, 63, 0)], 0, 0), (7, [(12, 7, 64, 0)])),
  (89, ([(1, 6, 0), (1, 7, 0), (0, 0, 0)], [(1, 6, 0)], [(1, 7, 0, 0, 63, 0)], 0, 0), (6, [(12, 7, 64, 0)])),
  (92, ([(1, 6, 0), (1, 7, 0), (0, 0, 0)], [(1, 155, 0)], [(1, 7, 0, 0, 63, 0)], 0, 0), (5, [(12, 7, 64, 0)])),
  (93, ([(1, 6, 0), (1, 7, 0), (0, 0, 0)], [(0, 0, 0), (1, 155, 0)], [(1, 7, 0, 0, 63, 0), (1, 3, 0, 0, 63, 0), (2, 3, 7, 1, 0, 0)], 0, 0), (4, [(12, 7, 64, 0)])),
  (94, ([(1, 6, 0), (1, 7, 0), (0, 0, 0)], [(0, 0, 0), (0, 0, 0), (1, 155, 0)], [(1, 7, 0, 0, 63, 0), (1, 3, 0, 0, 63, 0), (1, 6, 0, 0, 0, 0), (2, 3, 7, 1, 0, 0)], 0, 0), (3, [(12, 7, 64, 0)])),
  (95, ([(1, 6, 0), (1, 7, 0), (0, 0, 0)], [], [(1, 7, 0, 0, 63, 0)], 0, 0), (2, [(12, 7, 64, 0)])),
  (98, ([(1, 6, 0), (1, 7, 0), (0, 0, 0)], [], [(1, 7, 0, 1, 64, 0)], 0, 0), (13, [(12, 7, 64, 0)])),
  (101, ([(1, 6, 0), (1, 7, 0), (0, 0, 0)], [], [(1, 7, 0, 64, 64, 0)], 0, 0), (9, []))]
def kd_X6_beginAs_d5e88f_5 : List (Nat × sf_D × sf_M) := [(102, ([(1, 6, 0), (1, 7, 0), (0, 0, 0)], [(1, 6, 0)], [(1, 7, 0, 64, 64, 0)], 0, 0), (8, [])),
  (103, ([(1, 6, 0), (1, 7, 0), (0, 0, 0)], [(0, 0, 0), (1, 6, 0)], [(1, 7, 0, 64, 64, 0), (1, 3, 0, 0, 0, 0)], 0, 0), (7, [])),
  (106, ([(1, 6, 0), (1, 7, 0), (0, 0, 0)], [], [(1, 7, 0, 64, 64, 0), (1, 21023, 0, 0, 0, 0)], 0, 0), (6, [])),
  (107, ([(1, 6, 0), (1, 7, 0), (0, 0, 0)], [(1, 6, 0)], [(1, 7, 0, 64, 64, 0), (1, 21023, 0, 0, 0, 0)], 0, 0), (5, [])),
  (108, ([(1, 6, 0), (1, 7, 0), (0, 0, 0)], [(0, 0, 0), (1, 6, 0)], [(1, 7, 0, 64, 64, 0), (1, 21023, 0, 0, 0, 0), (1, 3, 0, 0, 0, 0)], 0, 0), (4, [])),
  (111, ([(1, 6, 0), (1, 7, 0), (0, 0, 0)], [], [(1, 7, 0, 64, 64, 0), (1, 21023, 0, 0, 0, 0), (1, 21026, 0, 0, 0, 0)], 0, 0), (3, [])),
  (112, ([(1, 6, 0), (1, 7, 0), (0, 0, 0)], [(1, 6, 0)], [(1, 7, 0, 64, 64, 0), (1, 21023, 0, 0, 0, 0), (1, 21026, 0, 0, 0, 0)], 0, 0), (2, [])),
  (113, ([(1, 6, 0), (1, 7, 0), (0, 0, 0)], [(0, 0, 0), (1, 6, 0)], [(1, 7, 0, 64, 64, 0), (1, 21023, 0, 0, 0, 0), (1, 21026, 0, 0, 0, 0), (1, 3, 0, 0, 0, 0)], 0, 0), (1, [])),
  (116, ([(1, 6, 0), (1, 7, 0), (0, 0, 0)], [], [(1, 7, 0, 64, 64, 0), (1, 21023, 0, 0, 0, 0), (1, 21026, 0, 0, 0, 0), (1, 21029, 0, 0, 0, 0)], 0, 0), (0, []))]
def kd_X6_beginAs_d5e88f : List (Nat × sf_D × sf_M) := kd_X6_beginAs_d5e88f_0 ++ (kd_X6_beginAs_d5e88f_1 ++ (kd_X6_beginAs_d5e88f_2 ++ (kd_X6_beginAs_d5e88f_3 ++ (kd_X6_beginAs_d5e88f_4 ++ (kd_X6_beginAs_d5e88f_5)))))
set_option maxRecDepth 100000 in
theorem kt_X6_beginAs_d5e88f : sf_chk [kq_X7_amountOf_ae6f8b] kq_X6_beginAs_d5e88f 3 kc_X6_beginAs_d5e88f kd_X6_beginAs_d5e88f = true := by decide +kernel
set_option maxRecDepth 100000 in
theorem kl_X6_beginAs_d5e88f : (kc_X6_beginAs_d5e88f).map (fun c => (c.1, sf_den ([Z_X7_amountOf] : List sf_X) c.2)) = L_X6_beginAs Z_X7_amountOf := rfl
theorem ct_X6_beginAs_d5e88f : sf_ct kq_X6_beginAs_d5e88f Z_X6_beginAs := by
  have h := sf_meth (K := [kq_X7_amountOf_ae6f8b]) (E := [Z_X7_amountOf]) (k := kq_X6_beginAs_d5e88f) (nL := 3) (C := kc_X6_beginAs_d5e88f) (D := kd_X6_beginAs_d5e88f) (fun m k hk => match m, hk with
    | 0, hk => (Option.some.inj hk) ▸ ct_X7_amountOf_ae6f8b
    | _ + 1, hk => (by cases hk)) kt_X6_beginAs_d5e88f
  rw [kl_X6_beginAs_d5e88f] at h
  exact h
end
