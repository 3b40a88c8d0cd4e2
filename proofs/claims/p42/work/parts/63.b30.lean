def kq_X10_strait_v : sf_Q := ([(1, 10, 0)], [], some (0, 0, 0), [], [(2, 1, 1), (5, 5, 5), (6, 7, 9), (7, 7, 12), (8, 1, 2), (9, 3, 9), (10, 13, 14), (10, 18, 18), (116, 0, 0), (117, 0, 0), (118, 0, 7), (119, 0, 47), (120, 0, 19), (121, 0, 19), (122, 0, 19), (124, 0, 900), (125, 0, 900), (126, 0, 0), (149, 0, 11), (150, 0, 11), (151, 0, 11), (152, 0, 11), (153, 0, 7), (154, 0, 7), (155, 0, 63)])
def ke_X10_strait_v : List Value → ab_H → Option Value → ab_H → Prop := fun _ hp r hp' => ∀ n : Int, sf_rd hp 1 1 = some n → ∃ (z : Int32) (f : Int) (s : PS), r = some (.int z) ∧ ANS (tok (bv hp 2 n.toNat) n.toNat 900) z.toInt f s ∧ sf_rd hp' 0 18 = some f ∧ sf_rd hp' 1 1 = some 0
set_option maxRecDepth 100000 in
set_option maxHeartbeats 4000000 in
theorem ce_X10_strait_v : sf_cE kq_X10_strait_v Z_X10_strait ke_X10_strait_v := by
  intro t hp as H hl hj hpre
  match as, hl with
  | [v0], _ =>
    obtain ⟨a0, rfl, ra0⟩ := bs_aR (hj 0 _ rfl)
    obtain rfl := ra0.eq H (p := 0) rfl
    clear hpre hj
    have F0 : sf_fr [(2, 1, 1), (5, 5, 5), (6, 7, 9), (7, 7, 12), (8, 1, 2), (9, 3, 9), (10, 13, 14), (10, 18, 18), (116, 0, 0), (117, 0, 0), (118, 0, 7), (119, 0, 47), (120, 0, 19), (121, 0, 19), (122, 0, 19), (124, 0, 900), (125, 0, 900), (126, 0, 0), (149, 0, 11), (150, 0, 11), (151, 0, 11), (152, 0, 11), (153, 0, 7), (154, 0, 7), (155, 0, 63)] t hp t hp := sf_fr_rf
    refine bs_finx (E := ke_X10_strait_v) (K := kq_X10_strait_v) (L := (L_X10_strait Z_X8_moveInto Z_X7_readText Z_X6_beginAs Z_X2_forget)) (nL := 3) (Nat.le_of_ble_eq_true rfl) ?_
    obtain ⟨Q, hQ⟩ : ∃ Q : ab_O → Prop, Q = (fun o => ∃ t', sf_h t' o.2 ∧ sf_fr (kq_X10_strait_v).2.2.2.2 t hp t' o.2 ∧ sf_an t' o.2.1 (kq_X10_strait_v).2.2.1 o.1 ∧ sf_S (sf_v1 o.1 [.ref 0] o.2) (kq_X10_strait_v).2.2.2.1 ∧ ke_X10_strait_v [.ref 0] hp o.1 o.2) := ⟨_, rfl⟩
    rw [← hQ]
    refine (show Ev (ab_T (L_X10_strait Z_X8_moveInto Z_X7_readText Z_X6_beginAs Z_X2_forget)) 0 ([some (.ref 0), none, none], [], (0, 0), hp) Q from ?_)
    obtain ⟨n0, hn0, ln0, un0⟩ := bs_fld (k := 1) H (bs_R.uq H (g := 8) rfl) (by decide) rfl
    obtain ⟨BB, hBB⟩ : ∃ BB : Nat → Int, BB = bv hp 2 n0.toNat := ⟨_, rfl⟩
    refine Ev.step (j := 1) (s' := ([some (.ref 0), none, none], [.ref 0], (0, 0), hp)) rfl rfl ?_
    refine bs_getU (g := 10) (g1 := 8) rfl rfl H (bs_R.uq H (g := 10) rfl) (by decide) rfl rfl ?_
    refine Ev.step (j := 5) (s' := ([some (.ref 0), none, none], [.ref 0, .ref 1], (0, 0), hp)) rfl rfl ?_
    refine bs_getU (g := 10) (g1 := 9) rfl rfl H (bs_R.uq H (g := 10) rfl) (by decide) rfl rfl ?_
    refine bs_lit (k := 900) rfl rfl fun z1 hz1 => ?_
    refine bs_callx (K := kq_X8_moveInto_v) [.ref 1, .ref 3, .int z1] [] rfl ce_X8_moveInto_v H rfl rfl rfl (bs_rcv (g := 8) H (bs_R.uq H (g := 8) rfl) (by decide) rfl) rfl ?_ (sf_S_cons (sf_s1 (x := z1.toInt) rfl (by omega) (by omega)) (sf_S_nil)) fun r2 hp3 thp3 Hhp3 fhp3 ahp3 php3 xhp3 => ?_
    · intro q k h
      match q, h with
      | 0, h => cases h; exact bs_jR (bs_R.uq H (g := 8) rfl)
      | 1, h => cases h; exact bs_jR (bs_R.uq H (g := 9) rfl)
      | 2, h => cases h; exact sf_j0
      | q + 3, h => cases h
    obtain rfl := ahp3.1 rfl
    have Fhp3 := sf_fr_tr F0 (sf_fr_wider (W := [(2, 1, 1), (5, 5, 5), (6, 7, 9), (7, 7, 12), (8, 1, 2), (9, 3, 9), (10, 13, 14), (10, 18, 18), (116, 0, 0), (117, 0, 0), (118, 0, 7), (119, 0, 47), (120, 0, 19), (121, 0, 19), (122, 0, 19), (124, 0, 900), (125, 0, 900), (126, 0, 0), (149, 0, 11), (150, 0, 11), (151, 0, 11), (152, 0, 11), (153, 0, 7), (154, 0, 7), (155, 0, 63)]) rfl fhp3)
    refine (show Ev _ 14 ([some (.ref 0), none, none], [], (0, 0), hp3) _ from ?_)
    obtain ⟨m, KS, K4, K9, K1⟩ := xhp3 n0 hn0
    have ML : mv_l [.ref 1, .ref 3, .int z1] = 900 := by show z1.toInt.toNat = 900; omega
    rw [ML, ← hBB] at KS
    refine Ev.step (j := 15) (s' := ([some (.ref 0), none, none], [.ref 0], (0, 0), hp3)) rfl rfl ?_
    refine bs_getR (g := 10) (g1 := 7) rfl rfl Hhp3 (bs_R.uq Hhp3 (g := 10) rfl) (by decide) rfl fun b4 qb4 rb4 => ?_
    refine Ev.step (j := 19) (s' := ([some (.ref 0), none, none], [.ref 0, .ref b4], (0, 0), hp3)) rfl rfl ?_
    refine bs_getU (g := 10) (g1 := 9) rfl rfl Hhp3 (bs_R.uq Hhp3 (g := 10) rfl) (by decide) rfl rfl ?_
    refine bs_callp (K := kq_X7_readText_v) [.ref b4, .ref 3] [] rfl cp_X7_readText_v (⟨⟨KS, K4, Nat.zero_le _⟩, K9⟩) Hhp3 rfl rfl rfl (bs_rcv (g := 7) Hhp3 rb4 (by decide) rfl) rfl ?_ (sf_S_nil) fun r5 hp6 thp6 Hhp6 fhp6 ahp6 php6 xhp6 => ?_
    · intro q k h
      match q, h with
      | 0, h => cases h; exact bs_jR rb4
      | 1, h => cases h; exact bs_jR (bs_R.uq Hhp3 (g := 9) rfl)
      | q + 2, h => cases h
    obtain ⟨z7, rfl⟩ := bs_anI ahp6
    have rgz7 := n_range z7
    have Fhp6 := sf_fr_tr Fhp3 (sf_fr_wider (W := [(2, 1, 1), (5, 5, 5), (6, 7, 9), (7, 7, 12), (8, 1, 2), (9, 3, 9), (10, 13, 14), (10, 18, 18), (116, 0, 0), (117, 0, 0), (118, 0, 7), (119, 0, 47), (120, 0, 19), (121, 0, 19), (122, 0, 19), (124, 0, 900), (125, 0, 900), (126, 0, 0), (149, 0, 11), (150, 0, 11), (151, 0, 11), (152, 0, 11), (153, 0, 7), (154, 0, 7), (155, 0, 63)]) rfl fhp6)
    have h8 : sf_rd hp6 1 1 = some (0 : Int) := (fhp6.2.2.1 _ (bs_R.uq Hhp3 (g := 8) (p := 1) rfl).1 _ (by rw [(bs_R.uq Hhp3 (g := 8) (p := 1) rfl).2]; rfl)).trans K1
    have r9 := rb4.fr fhp6
    refine (show Ev _ 25 ([some (.ref 0), none, none], [.int z7], (0, 0), hp6) _ from ?_)
    obtain ⟨z9, f9, s9, rz9, R9, XA⟩ := xhp6 _ rfl
    obtain rfl := Value.int.inj (Option.some.inj rz9)
    refine Ev.step (j := 26) (s' := ([some (.ref 0), some (.int z7), none], [], (0, 0), hp6)) rfl rfl ?_
    refine Ev.step (j := 27) (s' := ([some (.ref 0), some (.int z7), none], [.ref 0], (0, 0), hp6)) rfl rfl ?_
    refine Ev.step (j := 28) (s' := ([some (.ref 0), some (.int z7), none], [.ref 0, .ref 0], (0, 0), hp6)) rfl rfl ?_
    refine bs_getU (g := 10) (g1 := 9) rfl rfl Hhp6 (bs_R.uq Hhp6 (g := 10) rfl) (by decide) rfl rfl ?_
    refine bs_getI 9 rfl rfl rfl Hhp6 (bs_R.uq Hhp6 (g := 9) rfl) (by decide) rfl fun z10 hz10 lz10 gz10 => ?_
    have e11 : z10.toInt = f9 := Option.some.inj (hz10.symm.trans R9)
    refine bs_putIv (W := [(10, 18, 18)]) (g := 10) rfl rfl Hhp6 (bs_R.uq Hhp6 (g := 10) rfl) (by decide) rfl rfl rfl rfl (Or.inl rfl) (by omega) (by omega) fun hp12 Hhp12 fhp12 rhp12 ehp12 qhp12 nhp12 => ?_
    have Fhp12 := sf_fr_tr Fhp6 (sf_fr_wider (W := [(2, 1, 1), (5, 5, 5), (6, 7, 9), (7, 7, 12), (8, 1, 2), (9, 3, 9), (10, 13, 14), (10, 18, 18), (116, 0, 0), (117, 0, 0), (118, 0, 7), (119, 0, 47), (120, 0, 19), (121, 0, 19), (122, 0, 19), (124, 0, 900), (125, 0, 900), (126, 0, 0), (149, 0, 11), (150, 0, 11), (151, 0, 11), (152, 0, 11), (153, 0, 7), (154, 0, 7), (155, 0, 63)]) rfl fhp12)
    have h13 : sf_rd hp12 1 1 = some (0 : Int) := (ehp12 _ _ (Or.inl (by decide))).trans h8
    have h14 : sf_rd hp12 3 9 = some f9 := (ehp12 _ _ (Or.inl (by decide))).trans R9
    have r15 := r9.fr fhp12
    refine Ev.step (j := 38) (s' := ([some (.ref 0), some (.int z7), none], [.ref 0], (0, 0), hp12)) rfl rfl ?_
    refine bs_getI 10 rfl rfl rfl Hhp12 (bs_R.uq Hhp12 (g := 10) rfl) (by decide) rfl fun z16 hz16 lz16 gz16 => ?_
    have e17 : z16.toInt = z10.toInt := Option.some.inj (hz16.symm.trans rhp12)
    refine bs_ifeq rfl (fun c18 => ?_) (fun c18 => ?_)
    · skip
      have c19 : z16.toInt = 0 := by omega
      refine Ev.step (j := 55) (s' := ([some (.ref 0), some (.int z7), none], [.ref 0], (0, 0), hp12)) rfl rfl ?_
      refine bs_getR (g := 10) (g1 := 7) rfl rfl Hhp12 (bs_R.uq Hhp12 (g := 10) rfl) (by decide) rfl fun b20 qb20 rb20 => ?_
      refine Ev.step (j := 59) (s' := ([some (.ref 0), some (.int z7), some (.ref b20)], [], (0, 0), hp12)) rfl rfl ?_
      refine Ev.step (j := 60) (s' := ([some (.ref 0), some (.int z7), some (.ref b20)], [.ref 0], (0, 0), hp12)) rfl rfl ?_
      refine Ev.step (j := 61) (s' := ([some (.ref 0), some (.int z7), some (.ref b20)], [.ref 0, .ref 0], (0, 0), hp12)) rfl rfl ?_
      refine bs_getR (g := 10) (g1 := 7) rfl rfl Hhp12 (bs_R.uq Hhp12 (g := 10) rfl) (by decide) rfl fun b21 qb21 rb21 => ?_
      refine bs_putR (W := [(10, 13, 13)]) (g := 10) (g1 := 7) rfl rfl Hhp12 (bs_R.uq Hhp12 (g := 10) rfl) (by decide) rfl rfl rfl rfl rb21 fun hp22 Hhp22 fhp22 mhp22 qhp22 ehp22 nhp22 => ?_
      have Fhp22 := sf_fr_tr Fhp12 (sf_fr_wider (W := [(2, 1, 1), (5, 5, 5), (6, 7, 9), (7, 7, 12), (8, 1, 2), (9, 3, 9), (10, 13, 14), (10, 18, 18), (116, 0, 0), (117, 0, 0), (118, 0, 7), (119, 0, 47), (120, 0, 19), (121, 0, 19), (122, 0, 19), (124, 0, 900), (125, 0, 900), (126, 0, 0), (149, 0, 11), (150, 0, 11), (151, 0, 11), (152, 0, 11), (153, 0, 7), (154, 0, 7), (155, 0, 63)]) rfl fhp22)
      have h23 : sf_rd hp22 1 1 = some (0 : Int) := (ehp22 _ _).trans h13
      have h24 : sf_rd hp22 3 9 = some f9 := (ehp22 _ _).trans h14
      have h25 : sf_rd hp22 0 18 = some z10.toInt := (ehp22 _ _).trans rhp12
      have r26 := r15.fr fhp22
      have r27 := rb20.fr fhp22
      have r28 := rb21.fr fhp22
      refine Ev.step (j := 68) (s' := ([some (.ref 0), some (.int z7), some (.ref b20)], [.ref 0], (0, 0), hp22)) rfl rfl ?_
      refine Ev.step (j := 69) (s' := ([some (.ref 0), some (.int z7), some (.ref b20)], [.ref b20, .ref 0], (0, 0), hp22)) rfl rfl ?_
      refine bs_putR (W := [(10, 14, 14)]) (g := 10) (g1 := 7) rfl rfl Hhp22 (bs_R.uq Hhp22 (g := 10) rfl) (by decide) rfl rfl rfl rfl r27 fun hp29 Hhp29 fhp29 mhp29 qhp29 ehp29 nhp29 => ?_
      have Fhp29 := sf_fr_tr Fhp22 (sf_fr_wider (W := [(2, 1, 1), (5, 5, 5), (6, 7, 9), (7, 7, 12), (8, 1, 2), (9, 3, 9), (10, 13, 14), (10, 18, 18), (116, 0, 0), (117, 0, 0), (118, 0, 7), (119, 0, 47), (120, 0, 19), (121, 0, 19), (122, 0, 19), (124, 0, 900), (125, 0, 900), (126, 0, 0), (149, 0, 11), (150, 0, 11), (151, 0, 11), (152, 0, 11), (153, 0, 7), (154, 0, 7), (155, 0, 63)]) rfl fhp29)
      have h30 : sf_rd hp29 1 1 = some (0 : Int) := (ehp29 _ _).trans h23
      have h31 : sf_rd hp29 3 9 = some f9 := (ehp29 _ _).trans h24
      have h32 : sf_rd hp29 0 18 = some z10.toInt := (ehp29 _ _).trans h25
      have r33 := r26.fr fhp29
      have r34 := r27.fr fhp29
      have r35 := r28.fr fhp29
      refine Ev.step (j := 73) (s' := ([some (.ref 0), some (.int z7), some (.ref b20)], [.ref 0], (0, 0), hp29)) rfl rfl ?_
      refine bs_getU (g := 10) (g1 := 6) rfl rfl Hhp29 (bs_R.uq Hhp29 (g := 10) rfl) (by decide) rfl rfl ?_
      refine Ev.step (j := 77) (s' := ([some (.ref 0), some (.int z7), some (.ref b20)], [.ref 0, .ref 12], (0, 0), hp29)) rfl rfl ?_
      refine bs_getR (g := 10) (g1 := 7) rfl rfl Hhp29 (bs_R.uq Hhp29 (g := 10) rfl) (by decide) rfl fun b36 qb36 rb36 => ?_
      refine bs_call (K := kq_X6_beginAs_d5e88f) [.ref 12, .ref b36] [] rfl ct_X6_beginAs_d5e88f Hhp29 rfl rfl rfl (bs_rcv (g := 6) Hhp29 (bs_R.uq Hhp29 (g := 6) rfl) (by decide) rfl) rfl ?_ (sf_S_nil) fun r37 hp38 thp38 Hhp38 fhp38 ahp38 php38 => ?_
      · intro q k h
        match q, h with
        | 0, h => cases h; exact bs_jR (bs_R.uq Hhp29 (g := 6) rfl)
        | 1, h => cases h; exact bs_jR rb36
        | q + 2, h => cases h
      obtain rfl := ahp38.1 rfl
      have Fhp38 := sf_fr_tr Fhp29 (sf_fr_wider (W := [(2, 1, 1), (5, 5, 5), (6, 7, 9), (7, 7, 12), (8, 1, 2), (9, 3, 9), (10, 13, 14), (10, 18, 18), (116, 0, 0), (117, 0, 0), (118, 0, 7), (119, 0, 47), (120, 0, 19), (121, 0, 19), (122, 0, 19), (124, 0, 900), (125, 0, 900), (126, 0, 0), (149, 0, 11), (150, 0, 11), (151, 0, 11), (152, 0, 11), (153, 0, 7), (154, 0, 7), (155, 0, 63)]) rfl fhp38)
      have h39 : sf_rd hp38 1 1 = some (0 : Int) := (fhp38.2.2.1 _ (bs_R.uq Hhp29 (g := 8) (p := 1) rfl).1 _ (by rw [(bs_R.uq Hhp29 (g := 8) (p := 1) rfl).2]; rfl)).trans h30
      have h40 : sf_rd hp38 3 9 = some f9 := (fhp38.2.2.1 _ (bs_R.uq Hhp29 (g := 9) (p := 3) rfl).1 _ (by rw [(bs_R.uq Hhp29 (g := 9) (p := 3) rfl).2]; rfl)).trans h31
      have h41 : sf_rd hp38 0 18 = some z10.toInt := (fhp38.2.2.1 _ (bs_R.uq Hhp29 (g := 10) (p := 0) rfl).1 _ (by rw [(bs_R.uq Hhp29 (g := 10) (p := 0) rfl).2]; rfl)).trans h32
      obtain ⟨y42, ey42, uy42, vy42⟩ := (php38 _ (List.mem_of_getElem? (i := 0) rfl)).1 rfl
      replace ey42 : sf_rd hp38 12 7 = some y42 := ey42
      replace uy42 : (0 : Int) ≤ y42 := uy42
      replace vy42 : y42 ≤ (0 : Int) := vy42
      obtain ⟨y43, ey43, uy43, vy43⟩ := (php38 _ (List.mem_of_getElem? (i := 1) rfl)).1 rfl
      replace ey43 : sf_rd hp38 12 8 = some y43 := ey43
      replace uy43 : (0 : Int) ≤ y43 := uy43
      replace vy43 : y43 ≤ (0 : Int) := vy43
      obtain ⟨y44, ey44, uy44, vy44⟩ := (php38 _ (List.mem_of_getElem? (i := 2) rfl)).1 rfl
      replace ey44 : sf_rd hp38 12 9 = some y44 := ey44
      replace uy44 : (0 : Int) ≤ y44 := uy44
      replace vy44 : y44 ≤ (0 : Int) := vy44
      have r45 := r33.fr fhp38
      have r46 := r34.fr fhp38
      have r47 := r35.fr fhp38
      have r48 := rb36.fr fhp38
      refine (show Ev _ 83 ([some (.ref 0), some (.int z7), some (.ref b20)], [], (0, 0), hp38) _ from ?_)
      refine Ev.step (j := 84) (s' := ([some (.ref 0), some (.int z7), some (.ref b20)], [.ref 0], (0, 0), hp38)) rfl rfl ?_
      refine bs_getR (g := 10) (g1 := 5) rfl rfl Hhp38 (bs_R.uq Hhp38 (g := 10) rfl) (by decide) rfl fun b49 qb49 rb49 => ?_
      refine bs_lit (k := 0) rfl rfl fun z50 hz50 => ?_
      refine bs_putIv (W := [(5, 5, 5)]) (g := 5) rfl rfl Hhp38 rb49 (by decide) rfl rfl rfl rfl (Or.inr ⟨rfl, by omega, by omega⟩) (by omega) (by omega) fun hp51 Hhp51 fhp51 rhp51 ehp51 qhp51 nhp51 => ?_
      have Fhp51 := sf_fr_tr Fhp38 (sf_fr_wider (W := [(2, 1, 1), (5, 5, 5), (6, 7, 9), (7, 7, 12), (8, 1, 2), (9, 3, 9), (10, 13, 14), (10, 18, 18), (116, 0, 0), (117, 0, 0), (118, 0, 7), (119, 0, 47), (120, 0, 19), (121, 0, 19), (122, 0, 19), (124, 0, 900), (125, 0, 900), (126, 0, 0), (149, 0, 11), (150, 0, 11), (151, 0, 11), (152, 0, 11), (153, 0, 7), (154, 0, 7), (155, 0, 63)]) rfl fhp51)
      have h52 : sf_rd hp51 1 1 = some (0 : Int) := (ehp51 _ _ (Or.inl (bs_nq (bs_R.uq Hhp38 (g := 8) rfl) rb49 (by decide)))).trans h39
      have h53 : sf_rd hp51 3 9 = some f9 := (ehp51 _ _ (Or.inl (bs_nq (bs_R.uq Hhp38 (g := 9) rfl) rb49 (by decide)))).trans h40
      have h54 : sf_rd hp51 0 18 = some z10.toInt := (ehp51 _ _ (Or.inl (bs_nq (bs_R.uq Hhp38 (g := 10) rfl) rb49 (by decide)))).trans h41
      have h55 : sf_rd hp51 12 7 = some y42 := (ehp51 _ _ (Or.inl (bs_nq (bs_R.uq Hhp38 (g := 6) rfl) rb49 (by decide)))).trans ey42
      have h56 : sf_rd hp51 12 8 = some y43 := (ehp51 _ _ (Or.inl (bs_nq (bs_R.uq Hhp38 (g := 6) rfl) rb49 (by decide)))).trans ey43
      have h57 : sf_rd hp51 12 9 = some y44 := (ehp51 _ _ (Or.inl (bs_nq (bs_R.uq Hhp38 (g := 6) rfl) rb49 (by decide)))).trans ey44
      have r58 := r45.fr fhp51
      have r59 := r46.fr fhp51
      have r60 := r47.fr fhp51
      have r61 := r48.fr fhp51
      have r62 := rb49.fr fhp51
      refine Ev.step (j := 92) (s' := ([some (.ref 0), some (.int z7), some (.ref b20)], [.ref 0], (0, 0), hp51)) rfl rfl ?_
      refine bs_getU (g := 10) (g1 := 2) rfl rfl Hhp51 (bs_R.uq Hhp51 (g := 10) rfl) (by decide) rfl rfl ?_
      refine bs_call (K := kq_X2_forget_ec9902) [.ref 10] [] rfl ct_X2_forget_ec9902 Hhp51 rfl rfl rfl (bs_rcv (g := 2) Hhp51 (bs_R.uq Hhp51 (g := 2) rfl) (by decide) rfl) rfl ?_ (sf_S_nil) fun r63 hp64 thp64 Hhp64 fhp64 ahp64 php64 => ?_
      · intro q k h
        match q, h with
        | 0, h => cases h; exact bs_jR (bs_R.uq Hhp51 (g := 2) rfl)
        | q + 1, h => cases h
      obtain rfl := ahp64.1 rfl
      have Fhp64 := sf_fr_tr Fhp51 (sf_fr_wider (W := [(2, 1, 1), (5, 5, 5), (6, 7, 9), (7, 7, 12), (8, 1, 2), (9, 3, 9), (10, 13, 14), (10, 18, 18), (116, 0, 0), (117, 0, 0), (118, 0, 7), (119, 0, 47), (120, 0, 19), (121, 0, 19), (122, 0, 19), (124, 0, 900), (125, 0, 900), (126, 0, 0), (149, 0, 11), (150, 0, 11), (151, 0, 11), (152, 0, 11), (153, 0, 7), (154, 0, 7), (155, 0, 63)]) rfl fhp64)
      have h65 : sf_rd hp64 1 1 = some (0 : Int) := (fhp64.2.2.1 _ (bs_R.uq Hhp51 (g := 8) (p := 1) rfl).1 _ (by rw [(bs_R.uq Hhp51 (g := 8) (p := 1) rfl).2]; rfl)).trans h52
      have h66 : sf_rd hp64 3 9 = some f9 := (fhp64.2.2.1 _ (bs_R.uq Hhp51 (g := 9) (p := 3) rfl).1 _ (by rw [(bs_R.uq Hhp51 (g := 9) (p := 3) rfl).2]; rfl)).trans h53
      have h67 : sf_rd hp64 0 18 = some z10.toInt := (fhp64.2.2.1 _ (bs_R.uq Hhp51 (g := 10) (p := 0) rfl).1 _ (by rw [(bs_R.uq Hhp51 (g := 10) (p := 0) rfl).2]; rfl)).trans h54
      have h68 : sf_rd hp64 12 7 = some y42 := (fhp64.2.2.1 _ (bs_R.uq Hhp51 (g := 6) (p := 12) rfl).1 _ (by rw [(bs_R.uq Hhp51 (g := 6) (p := 12) rfl).2]; rfl)).trans h55
      have h69 : sf_rd hp64 12 8 = some y43 := (fhp64.2.2.1 _ (bs_R.uq Hhp51 (g := 6) (p := 12) rfl).1 _ (by rw [(bs_R.uq Hhp51 (g := 6) (p := 12) rfl).2]; rfl)).trans h56
      have h70 : sf_rd hp64 12 9 = some y44 := (fhp64.2.2.1 _ (bs_R.uq Hhp51 (g := 6) (p := 12) rfl).1 _ (by rw [(bs_R.uq Hhp51 (g := 6) (p := 12) rfl).2]; rfl)).trans h57
      have h71 : sf_rd hp64 b49 5 = some z50.toInt := (fhp64.2.2.1 _ r62.1 _ (by rw [r62.2]; rfl)).trans rhp51
      obtain ⟨y72, ey72, uy72, vy72⟩ := (php64 _ (List.mem_of_getElem? (i := 0) rfl)).1 rfl
      replace ey72 : sf_rd hp64 10 1 = some y72 := ey72
      replace uy72 : (0 : Int) ≤ y72 := uy72
      replace vy72 : y72 ≤ (0 : Int) := vy72
      have r73 := r58.fr fhp64
      have r74 := r59.fr fhp64
      have r75 := r60.fr fhp64
      have r76 := r61.fr fhp64
      have r77 := r62.fr fhp64
      refine (show Ev _ 98 ([some (.ref 0), some (.int z7), some (.ref b20)], [], (0, 0), hp64) _ from ?_)
      refine Ev.step (j := 99) (s' := ([some (.ref 0), some (.int z7), some (.ref b20)], [.int z7], (0, 0), hp64)) rfl rfl ?_
      exact Ev.ret rfl rfl (by rw [hQ]; exact ⟨thp64, Hhp64, Fhp64, bs_an0, sf_S_nil, (fun n hn_ => by
              have eqN : n = n0 := Option.some.inj (hn_.symm.trans hn0); subst eqN; rw [← hBB]
              obtain ⟨g1, g2, g3⟩ := XA.resolve_right (fun h => absurd (show f9 = 0 by omega) h.1)
              exact ⟨z7, f9, s9, rfl, by rw [g1]; exact g2, h67.trans (congrArg some (by omega)), h65⟩)⟩)
    · skip
      refine bs_lit (k := -1) rfl rfl fun z78 hz78 => ?_
      refine Ev.step (j := 46) (s' := ([some (.ref 0), some (.int z7), none], [.ref 0, .int z78], (0, 0), hp12)) rfl rfl ?_
      refine bs_getU (g := 10) (g1 := 9) rfl rfl Hhp12 (bs_R.uq Hhp12 (g := 10) rfl) (by decide) rfl rfl ?_
      refine bs_getI 9 rfl rfl rfl Hhp12 (bs_R.uq Hhp12 (g := 9) rfl) (by decide) rfl fun z79 hz79 lz79 gz79 => ?_
      first | (refine bs_sub rfl (by omega) (by omega) fun z80 hz80 => ?_) | (refine bs_any rfl fun z80 => ?_)
      have rz80 := n_range z80
      exact Ev.ret rfl rfl (by rw [hQ]; exact ⟨thp6, Hhp12, Fhp12, bs_an0, sf_S_nil, (fun n hn_ => by
              have eqN : n = n0 := Option.some.inj (hn_.symm.trans hn0); subst eqN; rw [← hBB]
              obtain ⟨g1, pl, g2, g3⟩ := XA.resolve_left (fun h => absurd h.1 (by omega))
              have PE : z79.toInt = pl := Option.some.inj (hz79.symm.trans (((ehp12 _ _ (Or.inl (by decide)))).trans g2))
              exact ⟨z80, f9, s9, rfl, by rw [show z80.toInt = -1 - pl by omega]; exact g3, rhp12.trans (congrArg some (by omega)), h13⟩)⟩)
theorem ct_X10_strait_v : sf_ct kq_X10_strait_v Z_X10_strait := ce_X10_strait_v.ct
