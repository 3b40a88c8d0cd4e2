-- 63.b30.lean.txt
section
def kq_X10_strait_v : sf_Q := ([(1, 10, 0)], [], some (0, 0, 0), [], [(2, 1, 1), (5, 5, 5), (6, 7, 9), (7, 7, 12), (8, 1, 2), (9, 3, 9), (10, 13, 14), (10, 18, 18), (116, 0, 0), (117, 0, 0), (118, 0, 7), (119, 0, 47), (120, 0, 19), (121, 0, 19), (122, 0, 19), (124, 0, 900), (125, 0, 900), (126, 0, 0), (149, 0, 11), (150, 0, 11), (151, 0, 11), (152, 0, 11), (153, 0, 7), (154, 0, 7), (155, 0, 63)])
def ke_X10_strait_v : List Value → ab_H → Option Value → ab_H → Prop := fun _ hp r hp' => ∀ n : Int, sf_rd hp 1 1 = some n → ∃ (z : Int32) (f : Int) (s : PS), r = some (.int z) ∧ ANS (tok (bv hp 2 n.toNat) n.toNat 900) z.toInt f s ∧ sf_rd hp' 0 18 = some f ∧ sf_rd hp' 1 1 = some 0
set_option maxRecDepth 100000 in
set_option maxHeartbeats 4000000 in
theorem ce_X10_strait_v : sf_cE kq_X10_strait_v Z_X10_strait ke_X10_strait_v := by
  intro t hp as H hl hj hpre
  match as, hl with
  | [v0], _ =>
    obtain ⟨a0, rfl, ra0⟩ := bs_aR (hj 0 _ rfl)
    obtain rfl := ra0.eq H (p := 0) rfl
    clear hpre hj
    have F0 : sf_fr [(2, 1, 1), (5, 5, 5), (6, 7, 9), (7, 7, 12), (8, 1, 2), (9, 3, 9), (10, 13, 14), (10, 18, 18), (116, 0, 0), (117, 0, 0), (118, 0, 7), (119, 0, 47), (120, 0, 19), (121, 0, 19), (122, 0, 19), (124, 0, 900), (125, 0, 900), (126, 0, 0), (149, 0, 11), (150, 0, 11), (151, 0, 11), (152, 0, 11), (153, 0, 7), (154, 0, 7), (155, 0, 63)] t hp t hp := sf_fr_rf
    refine bs_finx (E := ke_X10_strait_v) (K := kq_X10_strait_v) (L := (L_X10_strait Z_X8_moveInto Z_X7_readText Z_X6_beginAs Z_X2_forget)) (nL := 3) (Nat.le_of_ble_eq_true rfl) ?_
    obtain ⟨Q, hQ⟩ : ∃ Q : ab_O → Prop, Q = (fun o => ∃ t', sf_h t' o.2 ∧ sf_fr (kq_X10_strait_v).2.2.2.2 t hp t' o.2 ∧ sf_an t' o.2.1 (kq_X10_strait_v).2.2.1 o.1 ∧ sf_S (sf_v1 o.1 [.ref 0] o.2) (kq_X10_strait_v).2.2.2.1 ∧ ke_X10_strait_v [.ref 0] hp o.1 o.2) := ⟨_, rfl⟩
    rw [← hQ]
    refine (show Ev (ab_T (L_X10_strait Z_X8_moveInto Z_X7_readText Z_X6_beginAs Z_X2_forget)) 0 ([some (.ref 0), none, none], [], (0, 0), hp) Q from ?_)
    obtain ⟨n0, hn0, ln0, un0⟩ := bs_fld (k := 1) H (bs_R.uq H (g := 8) rfl) (by decide) rfl
    obtain ⟨BB, hBB⟩ : ∃ BB : Nat → Int, BB = bv hp 2 n0.toNat := ⟨_, rfl⟩
    refine Ev.step (j := 1) (s' := ([some (.ref 0), none, none], [.ref 0], (0, 0), hp)) rfl rfl ?_
    refine bs_getU (g := 10) (g1 := 8) rfl rfl H (bs_R.uq H (g := 10) rfl) (by decide) rfl rfl ?_
    refine Ev.step (j := 5) (s' := ([some (.ref 0), none, none], [.ref 0, .ref 1], (0, 0), hp)) rfl rfl ?_
    refine bs_getU (g := 10) (g1 := 9) rfl rfl H (bs_R.uq H (g := 10) rfl) (by decide) rfl rfl ?_
    refine bs_lit (k := 900) rfl rfl fun z1 hz1 => ?_
    refine bs_callx (K := kq_X8_moveInto_v) [.ref 1, .ref 3, .int z1] [] rfl ce_X8_moveInto_v H rfl rfl rfl (bs_rcv (g := 8) H (bs_R.uq H (g := 8) rfl) (by decide) rfl) rfl ?_ (sf_S_cons (sf_s1 (x := z1.toInt) rfl (by omega) (by omega)) (sf_S_nil)) fun r2 hp3 thp3 Hhp3 fhp3 ahp3 php3 xhp3 => ?_
    · intro q k h
      match q, h with
      | 0, h => cases h; exact bs_jR (bs_R.uq H (g := 8) rfl)
      | 1, h => cases h; exact bs_jR (bs_R.uq H (g := 9) rfl)
      | 2, h => cases h; exact sf_j0
      | q + 3, h => cases h
    obtain rfl := ahp3.1 rfl
    have Fhp3 := sf_fr_tr F0 (sf_fr_wider (W := [(2, 1, 1), (5, 5, 5), (6, 7, 9), (7, 7, 12), (8, 1, 2), (9, 3, 9), (10, 13, 14), (10, 18, 18), (116, 0, 0), (117, 0, 0), (118, 0, 7), (119, 0, 47), (120, 0, 19), (121, 0, 19), (122, 0, 19), (124, 0, 900), (125, 0, 900), (126, 0, 0), (149, 0, 11), (150, 0, 11), (151, 0, 11), (152, 0, 11), (153, 0, 7), (154, 0, 7), (155, 0, 63)]) rfl fhp3)
    refine (show Ev _ 14 ([some (.ref 0), none, none], [], (0, 0), hp3) _ from ?_)
    obtain ⟨m, KS, K4, K9, K1⟩ := xhp3 n0 hn0
    have ML : mv_l [.ref 1, .ref 3, .int z1] = 900 := by show z1.toInt.toNat = 900; omega
    rw [ML, ← hBB] at KS
    refine Ev.step (j := 15) (s' := ([some (.ref 0), none, none], [.ref 0], (0, 0), hp3)) rfl rfl ?_
    refine bs_getR (g := 10) (g1 := 7) rfl rfl Hhp3 (bs_R.uq Hhp3 (g := 10) rfl) (by decide) rfl fun b4 qb4 rb4 => ?_
    refine Ev.step (j := 19) (s' := ([some (.ref 0), none, none], [.ref 0, .ref b4], (0, 0), hp3)) rfl rfl ?_
    refine bs_getU (g := 10) (g1 := 9) rfl rfl Hhp3 (bs_R.uq Hhp3 (g := 10) rfl) (by decide) rfl rfl ?_
    refine bs_callp (K := kq_X7_readText_v) [.ref b4, .ref 3] [] rfl cp_X7_readText_v (⟨⟨KS, K4, Nat.zero_le _⟩, K9⟩) Hhp3 rfl rfl rfl (bs_rcv (g := 7) Hhp3 rb4 (by decide) rfl) rfl ?_ (sf_S_nil) fun r5 hp6 thp6 Hhp6 fhp6 ahp6 php6 xhp6 => ?_
    · intro q k h
      match q, h with
      | 0, h => cases h; exact bs_jR rb4
      | 1, h => cases h; exact bs_jR (bs_R.uq Hhp3 (g := 9) rfl)
      | q + 2, h => cases h
    obtain ⟨z7, rfl⟩ := bs_anI ahp6
    have rgz7 := n_range z7
    have Fhp6 := sf_fr_tr Fhp3 (sf_fr_wider (W := [(2, 1, 1), (5, 5, 5), (6, 7, 9), (7, 7, 12), (8, 1, 2), (9, 3, 9), (10, 13, 14), (10, 18, 18), (116, 0, 0), (117, 0, 0), (118, 0, 7), (119, 0, 47), (120, 0, 19), (121, 0, 19), (122, 0, 19), (124, 0, 900), (125, 0, 900), (126, 0, 0), (149, 0, 11), (150, 0, 11), (151, 0, 11), (152, 0, 11), (153, 0, 7), (154, 0, 7), (155, 0, 63)]) rfl fhp6)
    have h8 : sf_rd hp6 1 1 = some (0 : Int) := (fhp6.2.2.1 _ (bs_R.uq Hhp3 (g := 8) (p := 1) rfl).1 _ (by rw [(bs_R.uq Hhp3 (g := 8) (p := 1) rfl).2]; rfl)).trans K1
    have r9 := rb4.fr fhp6
    refine (show Ev _ 25 ([some (.ref 0), none, none], [.int z7], (0, 0), hp6) _ from ?_)
    obtain ⟨z9, f9, s9, rz9, R9, XA⟩ := xhp6 _ rfl
    obtain rfl := Value.int.inj (Option.some.inj rz9)
    refine Ev.step (j := 26) (s' := ([some (.ref 0), some (.int z7), none], [], (0, 0), hp6)) rfl rfl ?_
    refine Ev.step (j := 27) (s' := ([some (.ref 0), some (.int z7), none], [.ref 0], (0, 0), hp6)) rfl rfl ?_
    refine Ev.step (j := 28) (s' := ([some (.ref 0), some (.int z7), none], [.ref 0, .ref 0], (0, 0), hp6)) rfl rfl ?_
    refine bs_getU (g := 10) (g1 := 9) rfl rfl Hhp6 (bs_R.uq Hhp6 (g := 10) rfl) (by decide) rfl rfl ?_
    refine bs_getI 9 rfl rfl rfl Hhp6 (bs_R.uq Hhp6 (g := 9) rfl) (by decide) rfl fun z10 hz10 lz10 gz10 => ?_
    have e11 : z10.toInt = f9 := Option.some.inj (hz10.symm.trans R9)
    refine bs_putIv (W := [(10, 18, 18)]) (g := 10) rfl rfl Hhp6 (bs_R.uq Hhp6 (g := 10) rfl) (by decide) rfl rfl rfl rfl (Or.inl rfl) (by omega) (by omega) fun hp12 Hhp12 fhp12 rhp12 ehp12 qhp12 nhp12 => ?_
    have Fhp12 := sf_fr_tr Fhp6 (sf_fr_wider (W := [(2, 1, 1), (5, 5, 5), (6, 7, 9), (7, 7, 12), (8, 1, 2), (9, 3, 9), (10, 13, 14), (10, 18, 18), (116, 0, 0), (117, 0, 0), (118, 0, 7), (119, 0, 47), (120, 0, 19), (121, 0, 19), (122, 0, 19), (124, 0, 900), (125, 0, 900), (126, 0, 0), (149, 0, 11), (150, 0, 11), (151, 0, 11), (152, 0, 11), (153, 0, 7), (154, 0, 7), (155, 0, 63)]) rfl fhp12)
    have h13 : sf_rd hp12 1 1 = some (0 : Int) := (ehp12 _ _ (Or.inl (by decide))).trans h8
    have h14 : sf_rd hp12 3 9 = some f9 := (ehp12 _ _ (Or.inl (by decide))).trans R9
    have r15 := r9.fr fhp12
    refine Ev.step (j := 38) (s' := ([some (.ref 0), some (.int z7), none], [.ref 0], (0, 0), hp12)) rfl rfl ?_
    refine bs_getI 10 rfl rfl rfl Hhp12 (bs_R.uq Hhp12 (g := 10) rfl) (by decide) rfl fun z16 hz16 lz16 gz16 => ?_
    have e17 : z16.toInt = z10.toInt := Option.some.inj (hz16.symm.trans rhp12)
    refine bs_ifeq rfl (fun c18 => ?_) (fun c18 => ?_)
    · skip
      have c19 : z16.toInt = 0 := by omega
      refine Ev.step (j := 55) (s' := ([some (.ref 0), some (.int z7), none], [.ref 0], (0, 0), hp12)) rfl rfl ?_
      refine bs_getR (g := 10) (g1 := 7) rfl rfl Hhp12 (bs_R.uq Hhp12 (g := 10) rfl) (by decide) rfl fun b20 qb20 rb20 => ?_
      refine Ev.step (j := 59) (s' := ([some (.ref 0), some (.int z7), some (.ref b20)], [], (0, 0), hp12)) rfl rfl ?_
      refine Ev.step (j := 60) (s' := ([some (.ref 0), some (.int z7), some (.ref b20)], [.ref 0], (0, 0), hp12)) rfl rfl ?_
      refine Ev.step (j := 61) (s' := ([some (.ref 0), some (.int z7), some (.ref b20)], [.ref 0, .ref 0], (0, 0), hp12)) rfl rfl ?_
      refine bs_getR (g := 10) (g1 := 7) rfl rfl Hhp12 (bs_R.uq Hhp12 (g := 10) rfl) (by decide) rfl fun b21 qb21 rb21 => ?_
      refine bs_putR (W := [(10, 13, 13)]) (g := 10) (g1 := 7) rfl rfl Hhp12 (bs_R.uq Hhp12 (g := 10) rfl) (by decide) rfl rfl rfl rfl rb21 fun hp22 Hhp22 fhp22 mhp22 qhp22 ehp22 nhp22 => ?_
      have Fhp22 := sf_fr_tr Fhp12 (sf_fr_wider (W := [(2, 1, 1), (5, 5, 5), (6, 7, 9), (7, 7, 12), (8, 1, 2), (9, 3, 9), (10, 13, 14), (10, 18, 18), (116, 0, 0), (117, 0, 0), (118, 0, 7), (119, 0, 47), (120, 0, 19), (121, 0, 19), (122, 0, 19), (124, 0, 900), (125, 0, 900), (126, 0, 0), (149, 0, 11), (150, 0, 11), (151, 0, 11), (152, 0, 11), (153, 0, 7), (154, 0, 7), (155, 0, 63)]) rfl fhp22)
      have h23 : sf_rd hp22 1 1 = some (0 : Int) := (ehp22 _ _).trans h13
      have h24 : sf_rd hp22 3 9 = some f9 := (ehp22 _ _).trans h14
      have h25 : sf_rd hp22 0 18 = some z10.toInt := (ehp22 _ _).trans rhp12
      have r26 := r15.fr fhp22
      have r27 := rb20.fr fhp22
      have r28 := rb21.fr fhp22
      refine Ev.step (j := 68) (s' := ([some (.ref 0), some (.int z7), some (.ref b20)], [.ref 0], (0, 0), hp22)) rfl rfl ?_
      refine Ev.step (j := 69) (s' := ([some (.ref 0), some (.int z7), some (.ref b20)], [.ref b20, .ref 0], (0, 0), hp22)) rfl rfl ?_
      refine bs_putR (W := [(10, 14, 14)]) (g := 10) (g1 := 7) rfl rfl Hhp22 (bs_R.uq Hhp22 (g := 10) rfl) (by decide) rfl rfl rfl rfl r27 fun hp29 Hhp29 fhp29 mhp29 qhp29 ehp29 nhp29 => ?_
      have Fhp29 := sf_fr_tr Fhp22 (sf_fr_wider (W := [(2, 1, 1), (5, 5, 5), (6, 7, 9), (7, 7, 12), (8, 1, 2), (9, 3, 9), (10, 13, 14), (10, 18, 18), (116, 0, 0), (117, 0, 0), (118, 0, 7), (119, 0, 47), (120, 0, 19), (121, 0, 19), (122, 0, 19), (124, 0, 900), (125, 0, 900), (126, 0, 0), (149, 0, 11), (150, 0, 11), (151, 0, 11), (152, 0, 11), (153, 0, 7), (154, 0, 7), (155, 0, 63)]) rfl fhp29)
      have h30 : sf_rd hp29 1 1 = some (0 : Int) := (ehp29 _ _).trans h23
      have h31 : sf_rd hp29 3 9 = some f9 := (ehp29 _ _).trans h24
      have h32 : sf_rd hp29 0 18 = some z10.toInt := (ehp29 _ _).trans h25
      have r33 := r26.fr fhp29
      have r34 := r27.fr fhp29
      have r35 := r28.fr fhp29
      refine Ev.step (j := 73) (s' := ([some (.ref 0), some (.int z7), some (.ref b20)], [.ref 0], (0, 0), hp29)) rfl rfl ?_
      refine bs_getU (g := 10) (g1 := 6) rfl rfl Hhp29 (bs_R.uq Hhp29 (g := 10) rfl) (by decide) rfl rfl ?_
      refine Ev.step (j := 77) (s' := ([some (.ref 0), some (.int z7), some (.ref b20)], [.ref 0, .ref 12], (0, 0), hp29)) rfl rfl ?_
      refine bs_getR (g := 10) (g1 := 7) rfl rfl Hhp29 (bs_R.uq Hhp29 (g := 10) rfl) (by decide) rfl fun b36 qb36 rb36 => ?_
      refine bs_call (K := kq_X6_beginAs_d5e88f) [.ref 12, .ref b36] [] rfl ct_X6_beginAs_d5e88f Hhp29 rfl rfl rfl (bs_rcv (g := 6) Hhp29 (bs_R.uq Hhp29 (g := 6) rfl) (by decide) rfl) rfl ?_ (sf_S_nil) fun r37 hp38 thp38 Hhp38 fhp38 ahp38 php38 => ?_
      · intro q k h
        match q, h with
        | 0, h => cases h; exact bs_jR (bs_R.uq Hhp29 (g := 6) rfl)
        | 1, h => cases h; exact bs_jR rb36
        | q + 2, h => cases h
      obtain rfl := ahp38.1 rfl
      have Fhp38 := sf_fr_tr Fhp29 (sf_fr_wider (W := [(2, 1, 1), (5, 5, 5), (6, 7, 9), (7, 7, 12), (8, 1, 2), (9, 3, 9), (10, 13, 14), (10, 18, 18), (116, 0, 0), (117, 0, 0), (118, 0, 7), (119, 0, 47), (120, 0, 19), (121, 0, 19), (122, 0, 19), (124, 0, 900), (125, 0, 900), (126, 0, 0), (149, 0, 11), (150, 0, 11), (151, 0, 11), (152, 0, 11), (153, 0, 7), (154, 0, 7), (155, 0, 63)]) rfl fhp38)
      have h39 : sf_rd hp38 1 1 = some (0 : Int) := (fhp38.2.2.1 _ (bs_R.uq Hhp29 (g := 8) (p := 1) rfl).1 _ (by rw [(bs_R.uq Hhp29 (g := 8) (p := 1) rfl).2]; rfl)).trans h30
      have h40 : sf_rd hp38 3 9 = some f9 := (fhp38.2.2.1 _ (bs_R.uq Hhp29 (g := 9) (p := 3) rfl).1 _ (by rw [(bs_R.uq Hhp29 (g := 9) (p := 3) rfl).2]; rfl)).trans h31
      have h41 : sf_rd hp38 0 18 = some z10.toInt := (fhp38.2.2.1 _ (bs_R.uq Hhp29 (g := 10) (p := 0) rfl).1 _ (by rw [(bs_R.uq Hhp29 (g := 10) (p := 0) rfl).2]; rfl)).trans h32
      obtain ⟨y42, ey42, uy42, vy42⟩ := (php38 _ (List.mem_of_getElem? (i := 0) rfl)).1 rfl
      replace ey42 : sf_rd hp38 12 7 = some y42 := ey42
      replace uy42 : (0 : Int) ≤ y42 := uy42
      replace vy42 : y42 ≤ (0 : Int) := vy42
      obtain ⟨y43, ey43, uy43, vy43⟩ := (php38 _ (List.mem_of_getElem? (i := 1) rfl)).1 rfl
      replace ey43 : sf_rd hp38 12 8 = some y43 := ey43
      replace uy43 : (0 : Int) ≤ y43 := uy43
      replace vy43 : y43 ≤ (0 : Int) := vy43
      obtain ⟨y44, ey44, uy44, vy44⟩ := (php38 _ (List.mem_of_getElem? (i := 2) rfl)).1 rfl
      replace ey44 : sf_rd hp38 12 9 = some y44 := ey44
      replace uy44 : (0 : Int) ≤ y44 := uy44
      replace vy44 : y44 ≤ (0 : Int) := vy44
      have r45 := r33.fr fhp38
      have r46 := r34.fr fhp38
      have r47 := r35.fr fhp38
      have r48 := rb36.fr fhp38
      refine (show Ev _ 83 ([some (.ref 0), some (.int z7), some (.ref b20)], [], (0, 0), hp38) _ from ?_)
      refine Ev.step (j := 84) (s' := ([some (.ref 0), some (.int z7), some (.ref b20)], [.ref 0], (0, 0), hp38)) rfl rfl ?_
      refine bs_getR (g := 10) (g1 := 5) rfl rfl Hhp38 (bs_R.uq Hhp38 (g := 10) rfl) (by decide) rfl fun b49 qb49 rb49 => ?_
      refine bs_lit (k := 0) rfl rfl fun z50 hz50 => ?_
      refine bs_putIv (W := [(5, 5, 5)]) (g := 5) rfl rfl Hhp38 rb49 (by decide) rfl rfl rfl rfl (Or.inr ⟨rfl, by omega, by omega⟩) (by omega) (by omega) fun hp51 Hhp51 fhp51 rhp51 ehp51 qhp51 nhp51 => ?_
      have Fhp51 := sf_fr_tr Fhp38 (sf_fr_wider (W := [(2, 1, 1), (5, 5, 5), (6, 7, 9), (7, 7, 12), (8, 1, 2), (9, 3, 9), (10, 13, 14), (10, 18, 18), (116, 0, 0), (117, 0, 0), (118, 0, 7), (119, 0, 47), (120, 0, 19), (121, 0, 19), (122, 0, 19), (124, 0, 900), (125, 0, 900), (126, 0, 0), (149, 0, 11), (150, 0, 11), (151, 0, 11), (152, 0, 11), (153, 0, 7), (154, 0, 7), (155, 0, 63)]) rfl fhp51)
      have h52 : sf_rd hp51 1 1 = some (0 : Int) := (ehp51 _ _ (Or.inl (bs_nq (bs_R.uq Hhp38 (g := 8) rfl) rb49 (by decide)))).trans h39
      have h53 : sf_rd hp51 3 9 = some f9 := (ehp51 _ _ (Or.inl (bs_nq (bs_R.uq Hhp38 (g := 9) rfl) rb49 (by decide)))).trans h40
      have h54 : sf_rd hp51 0 18 = some z10.toInt := (ehp51 _ _ (Or.inl (bs_nq (bs_R.uq Hhp38 (g := 10) rfl) rb49 (by decide)))).trans h41
      have h55 : sf_rd hp51 12 7 = some y42 := (ehp51 _ _ (Or.inl (bs_nq (bs_R.uq Hhp38 (g := 6) rfl) rb49 (by decide)))).trans ey42
      have h56 : sf_rd hp51 12 8 = some y43 := (ehp51 _ _ (Or.inl (bs_nq (bs_R.uq Hhp38 (g := 6) rfl) rb49 (by decide)))).trans ey43
      have h57 : sf_rd hp51 12 9 = some y44 := (ehp51 _ _ (Or.inl (bs_nq (bs_R.uq Hhp38 (g := 6) rfl) rb49 (by decide)))).trans ey44
      have r58 := r45.fr fhp51
      have r59 := r46.fr fhp51
      have r60 := r47.fr fhp51
      have r61 := r48.fr fhp51
      have r62 := rb49.fr fhp51
      refine Ev.step (j := 92) (s' := ([some (.ref 0), some (.int z7), some (.ref b20)], [.ref 0], (0, 0), hp51)) rfl rfl ?_
      refine bs_getU (g := 10) (g1 := 2) rfl rfl Hhp51 (bs_R.uq Hhp51 (g := 10) rfl) (by decide) rfl rfl ?_
      refine bs_call (K := kq_X2_forget_ec9902) [.ref 10] [] rfl ct_X2_forget_ec9902 Hhp51 rfl rfl rfl (bs_rcv (g := 2) Hhp51 (bs_R.uq Hhp51 (g := 2) rfl) (by decide) rfl) rfl ?_ (sf_S_nil) fun r63 hp64 thp64 Hhp64 fhp64 ahp64 php64 => ?_
      · intro q k h
        match q, h with
        | 0, h => cases h; exact bs_jR (bs_R.uq Hhp51 (g := 2) rfl)
        | q + 1, h => cases h
      obtain rfl := ahp64.1 rfl
      have Fhp64 := sf_fr_tr Fhp51 (sf_fr_wider (W := [(2, 1, 1), (5, 5, 5), (6, 7, 9), (7, 7, 12), (8, 1, 2), (9, 3, 9), (10, 13, 14), (10, 18, 18), (116, 0, 0), (117, 0, 0), (118, 0, 7), (119, 0, 47), (120, 0, 19), (121, 0, 19), (122, 0, 19), (124, 0, 900), (125, 0, 900), (126, 0, 0), (149, 0, 11), (150, 0, 11), (151, 0, 11), (152, 0, 11), (153, 0, 7), (154, 0, 7), (155, 0, 63)]) rfl fhp64)
      have h65 : sf_rd hp64 1 1 = some (0 : Int) := (fhp64.2.2.1 _ (bs_R.uq Hhp51 (g := 8) (p := 1) rfl).1 _ (by rw [(bs_R.uq Hhp51 (g := 8) (p := 1) rfl).2]; rfl)).trans h52
      have h66 : sf_rd hp64 3 9 = some f9 := (fhp64.2.2.1 _ (bs_R.uq Hhp51 (g := 9) (p := 3) rfl).1 _ (by rw [(bs_R.uq Hhp51 (g := 9) (p := 3) rfl).2]; rfl)).trans h53
      have h67 : sf_rd hp64 0 18 = some z10.toInt := (fhp64.2.2.1 _ (bs_R.uq Hhp51 (g := 10) (p := 0) rfl).1 _ (by rw [(bs_R.uq Hhp51 (g := 10) (p := 0) rfl).2]; rfl)).trans h54
      have h68 : sf_rd hp64 12 7 = some y42 := (fhp64.2.2.1 _ (bs_R.uq Hhp51 (g := 6) (p := 12) rfl).1 _ (by rw [(bs_R.uq Hhp51 (g := 6) (p := 12) rfl).2]; rfl)).trans h55
      have h69 : sf_rd hp64 12 8 = some y43 := (fhp64.2.2.1 _ (bs_R.uq Hhp51 (g := 6) (p := 12) rfl).1 _ (by rw [(bs_R.uq Hhp51 (g := 6) (p := 12) rfl).2]; rfl)).trans h56
      have h70 : sf_rd hp64 12 9 = some y44 := (fhp64.2.2.1 _ (bs_R.uq Hhp51 (g := 6) (p := 12) rfl).1 _ (by rw [(bs_R.uq Hhp51 (g := 6) (p := 12) rfl).2]; rfl)).trans h57
      have h71 : sf_rd hp64 b49 5 = some z50.toInt := (fhp64.2.2.1 _ r62.1 _ (by rw [r62.2]; rfl)).trans rhp51
      obtain ⟨y72, ey72, uy72, vy72⟩ := (php64 _ (List.mem_of_getElem? (i := 0) rfl)).1 rfl
      replace ey72 : sf_rd hp64 10 1 = some y72 := ey72
      replace uy72 : (0 : Int) ≤ y72 := uy72
      replace vy72 : y72 ≤ (0 : Int) := vy72
      have r73 := r58.fr fhp64
      have r74 := r59.fr fhp64
      have r75 := r60.fr fhp64
      have r76 := r61.fr fhp64
      have r77 := r62.fr fhp64
      refine (show Ev _ 98 ([some (.ref 0), some (.int z7), some (.ref b20)], [], (0, 0), hp64) _ from ?_)
      refine Ev.step (j := 99) (s' := ([some (.ref 0), some (.int z7), some (.ref b20)], [.int z7], (0, 0), hp64)) rfl rfl ?_
      exact Ev.ret rfl rfl (by rw [hQ]; exact ⟨thp64, Hhp64, Fhp64, bs_an0, sf_S_nil, (fun n hn_ => by
              have eqN : n = n0 := Option.some.inj (hn_.symm.trans hn0); subst eqN; rw [← hBB]
              obtain ⟨g1, g2, g3⟩ := XA.resolve_right (fun h => absurd (show f9 = 0 by omega) h.1)
              exact ⟨z7, f9, s9, rfl, by rw [g1]; exact g2, h67.trans (congrArg some (by omega)), h65⟩)⟩)
    · skip
      refine bs_lit (k := -1) rfl rfl fun z78 hz78 => ?_
      refine Ev.step (j := 46) (s' := ([some (.ref 0), some (.int z7), none], [.ref 0, .int z78], (0, 0), hp12)) rfl rfl ?_
      refine bs_getU (g := 10) (g1 := 9) rfl rfl Hhp12 (bs_R.uq Hhp12 (g := 10) rfl) (by decide) rfl rfl ?_
      refine bs_getI 9 rfl rfl rfl Hhp12 (bs_R.uq Hhp12 (g := 9) rfl) (by decide) rfl fun z79 hz79 lz79 gz79 => ?_
      first | (refine bs_sub rfl (by omega) (by omega) fun z80 hz80 => ?_) | (refine bs_any rfl fun z80 => ?_)
      have rz80 := n_range z80
      exact Ev.ret rfl rfl (by rw [hQ]; exact ⟨thp6, Hhp12, Fhp12, bs_an0, sf_S_nil, (fun n hn_ => by
              have eqN : n = n0 := Option.some.inj (hn_.symm.trans hn0); subst eqN; rw [← hBB]
              obtain ⟨g1, pl, g2, g3⟩ := XA.resolve_left (fun h => absurd h.1 (by omega))
              have PE : z79.toInt = pl := Option.some.inj (hz79.symm.trans (((ehp12 _ _ (Or.inl (by decide)))).trans g2))
              exact ⟨z80, f9, s9, rfl, by rw [show z80.toInt = -1 - pl by omega]; exact g3, rhp12.trans (congrArg some (by omega)), h13⟩)⟩)
end
-- 63.b31.ref.lean.txt
section
def RK (hp : ab_H) (B : Nat → Int) (n lim i : Nat) : Prop := NT hp (tok B n lim i) ∧ sf_rd hp 69 3 = some (n : Int) ∧ sf_rd hp 69 5 = some (lim : Int) ∧ bv hp 70 n = B
theorem RK_next {W : List (Nat × Nat × Nat)} {t t' : Nat → Nat} {hp hp' : ab_H} {B : Nat → Int} {n lim i : Nat} (H : sf_h t hp) (f : sf_fr W t hp t' hp') (h3 : sf_inW W 11 3 = false) (h5 : sf_inW W 11 5 = false) (h7 : W.all (fun w => decide (w.1 ≠ 131)) = true) (x : ∀ p n l : Int, sf_rd hp 69 4 = some p → sf_rd hp 69 3 = some n → sf_rd hp 69 5 = some l → sf_psi hp' ≤ 2 * (940 - p) ∧ (p ≤ n → NT hp' (tkt (bv hp 70 n.toNat) n.toNat l.toNat p.toNat))) (h : RK hp B n lim i) : RK hp' B n lim (i + 1) ∧ sf_psi hp' ≤ 2 * (940 - (tps B n lim (i + 1) : Int)) := by
  obtain ⟨a, b, c, d⟩ := h
  obtain ⟨y1, y2⟩ := x _ _ _ a.2.1 b c
  have r11 : bs_R t hp 69 11 := bs_R.uq H rfl
  have r70 : bs_R t hp 70 131 := bs_R.uq H rfl
  have tn : tps B n lim (i + 1) ≤ n := tps_n (i + 1)
  have y3 := y2 (by show ((tps B n lim (i + 1) : Nat) : Int) ≤ (n : Int); omega)
  rw [show ((n : Int)).toNat = n from rfl, show ((lim : Int)).toNat = lim from rfl, d] at y3
  exact ⟨⟨y3, (f.2.2.1 _ r11.1 _ (by rw [r11.2]; exact h3)).trans b, (f.2.2.1 _ r11.1 _ (by rw [r11.2]; exact h5)).trans c, (bv_same fun q => sf_rd_cell (f.2.2.2.1 _ r70.1 (by rw [r70.2]; exact h7))).trans d⟩, y1⟩
theorem RK_keep {W : List (Nat × Nat × Nat)} {t t' : Nat → Nat} {hp hp' : ab_H} {B : Nat → Int} {n lim i : Nat} (H : sf_h t hp) (f : sf_fr W t hp t' hp') (h7 : W.all (fun w => decide (w.1 ≠ 131)) = true) (hW : (List.range 18).all (fun k => (decide (k ≠ 3) && decide (k ≠ 4) && decide (k ≠ 5) && decide (k ≠ 11) && decide (k ≠ 12) && decide (k ≠ 14)) || !(sf_inW W 11 k)) = true) (hl : sf_rl hp' 69 17 = sf_rl hp 69 17) (h : RK hp B n lim i) : RK hp' B n lim i := by
  obtain ⟨a, b, c, d⟩ := h
  have r11 : bs_R t hp 69 11 := bs_R.uq H rfl
  have r70 : bs_R t hp 70 131 := bs_R.uq H rfl
  have K : ∀ k, k < 18 → (k = 3 ∨ k = 4 ∨ k = 5 ∨ k = 11 ∨ k = 12 ∨ k = 14) → sf_rd hp' 69 k = sf_rd hp 69 k := by
    intro k hk hc
    refine f.2.2.1 _ r11.1 _ ?_
    rw [r11.2]
    have h1 := List.all_eq_true.mp hW k (List.mem_range.mpr hk)
    simp only [Bool.or_eq_true, Bool.and_eq_true, decide_eq_true_eq, Bool.not_eq_true'] at h1
    rcases h1 with h1 | h1
    · omega
    · exact h1
  obtain ⟨a1, a2, a3, a4, a5, a6⟩ := a
  refine ⟨⟨(K 12 (by omega) (by omega)).trans a1, (K 4 (by omega) (by omega)).trans a2, (K 11 (by omega) (by omega)).trans a3, fun e => (K 14 (by omega) (by omega)).trans (a4 e), fun e => (K 14 (by omega) (by omega)).trans (a5 e), fun e => ?_⟩, (K 3 (by omega) (by omega)).trans b, (K 5 (by omega) (by omega)).trans c, (bv_same fun q => sf_rd_cell (f.2.2.2.1 _ r70.1 (by rw [r70.2]; exact h7))).trans d⟩
  obtain ⟨w, g1, g2⟩ := a6 e
  exact ⟨w, hl.trans g1, g2⟩
def RES (hp : ab_H) : Prop := ∀ k, k < 25 → ∃ w, sf_rl hp 75 k = some w ∧ w.toInt = rwd.getD k 0
theorem RES_fr {W : List (Nat × Nat × Nat)} {t t' : Nat → Nat} {hp hp' : ab_H} (H : sf_h t hp) (f : sf_fr W t hp t' hp') (h7 : W.all (fun w => decide (w.1 ≠ 136)) = true) (h : RES hp) : RES hp' := by
  have r : bs_R t hp 75 136 := bs_R.uq H rfl
  intro k hk
  rw [sf_rl_cell (f.2.2.2.1 _ r.1 (by rw [r.2]; exact h7))]
  exact h k hk
theorem tok_k88 (B : Nat → Int) (n lim i : Nat) : (tok B n lim i).k ≤ 88 := by
  show (tkq B n lim _).k ≤ 88
  generalize tk_e tk_b B n (tps B n lim i) = q
  unfold tkq
  split
  · show (1 : Int) ≤ 88
    decide
  · split
    · show (0 : Int) ≤ 88
      decide
    · split
      · unfold trn
        split
        · show kw _ ≤ 88
          have := kw_rng (pv B q (tk_e tk_r B n q - q))
          omega
        · split
          · show (3 : Int) ≤ 88
            decide
          · show (1 : Int) ≤ 88
            decide
      · show tsg _ ≤ 88
        unfold tsg
        split
        · next h =>
          unfold tsgp at h
          omega
        · decide
theorem rkk_1 {k : Int} (h : rkk k = 1) : k = 2 ∨ 64 ≤ k := by
  unfold rkk at h
  split at h
  · omega
  · split at h
    · omega
    · split at h
      · omega
      · split at h
        · assumption
        · omega
theorem rkk_2 {k : Int} (h : rkk k = 2) : k = 3 := by
  unfold rkk at h
  split at h
  · omega
  · split at h
    · omega
    · split at h
      · assumption
      · split at h <;> omega
theorem rkk_0 {k : Int} (h : rkk k = 0) : k = 0 := by
  unfold rkk at h
  split at h
  · assumption
  · split at h
    · omega
    · split at h
      · omega
      · split at h <;> omega
theorem rkk_59 : rkk 59 = 3 := rfl
theorem rkk_w {k : Int} (h : 64 ≤ k) : rkk k = 1 := by
  unfold rkk
  rw [if_neg (by omega), if_neg (by omega), if_neg (by omega), if_pos (by omega)]
def ibit (A : Int) (k : Nat) : Bool := (Int32.ofInt A).toBitVec.getLsbD k
def SR (hp : ab_H) (s : PS) : Prop := (∀ i, i < 120 → sf_rd hp 72 i = some (s.h i)) ∧ sf_rd hp 69 20 = some (cond s.ld 1 0) ∧ (∀ w, w < 4 → ∃ A, sf_rd hp 76 w = some A ∧ ∀ k, k < 12 → ibit A k = s.tl (12 * w + k)) ∧ (∀ g : Nat, (g : Int) < s.h 0 → ∃ w, sf_rl hp 74 (14 + g) = some w ∧ w.toInt = s.nm g) ∧ (∀ g : Nat, (g : Int) < s.h 1 → ∃ w, sf_rl hp 74 (20 + g) = some w ∧ w.toInt = s.nm (6 + g))
theorem SR_fr {W : List (Nat × Nat × Nat)} {t t' : Nat → Nat} {hp hp' : ab_H} {s : PS} (H : sf_h t hp) (f : sf_fr W t hp t' hp') (h1 : W.all (fun w => decide (w.1 ≠ 133)) = true) (h2 : W.all (fun w => decide (w.1 ≠ 137)) = true) (h3 : W.all (fun w => decide (w.1 ≠ 135)) = true) (h4 : sf_inW W 11 20 = false) (h : SR hp s) : SR hp' s := by
  have r1 : bs_R t hp 72 133 := bs_R.uq H rfl
  have r2 : bs_R t hp 76 137 := bs_R.uq H rfl
  have r3 : bs_R t hp 74 135 := bs_R.uq H rfl
  have r4 : bs_R t hp 69 11 := bs_R.uq H rfl
  have e1 := f.2.2.2.1 _ r1.1 (by rw [r1.2]; exact h1)
  have e2 := f.2.2.2.1 _ r2.1 (by rw [r2.2]; exact h2)
  have e3 := f.2.2.2.1 _ r3.1 (by rw [r3.2]; exact h3)
  obtain ⟨a, b, c, d, e⟩ := h
  exact ⟨fun i hi => (sf_rd_cell e1).trans (a i hi), (f.2.2.1 _ r4.1 _ (by rw [r4.2]; exact h4)).trans b, fun w hw => by rw [sf_rd_cell e2]; exact c w hw, fun g hg => by rw [sf_rl_cell e3]; exact d g hg, fun g hg => by rw [sf_rl_cell e3]; exact e g hg⟩
def RRES (hp : ab_H) (B : Nat → Int) (n lim : Nat) (r : Option Value) (x : LR) : Prop := match x with
  | .inl (s, j) => (∃ z : Int32, r = some (.int z) ∧ z.toInt = 1) ∧ SR hp s ∧ RK hp B n lim j
  | .inr (f, j) => (∃ z : Int32, r = some (.int z) ∧ z.toInt = 0) ∧ sf_rd hp 69 15 = some f ∧ sf_rd hp 69 16 = some (tok B n lim j).pl
theorem RRES_bad {hp : ab_H} {B : Nat → Int} {n lim j : Nat} {r : Option Value} {f : Int} (h1 : ∃ z : Int32, r = some (.int z) ∧ z.toInt = 0) (h2 : sf_rd hp 69 15 = some f) (h3 : sf_rd hp 69 16 = some (tok B n lim j).pl) : RRES hp B n lim r (LR.bad f j) := ⟨h1, h2, h3⟩
theorem RRES_ok {hp : ab_H} {B : Nat → Int} {n lim j : Nat} {r : Option Value} {s : PS} (h1 : ∃ z : Int32, r = some (.int z) ∧ z.toInt = 1) (h2 : SR hp s) (h3 : RK hp B n lim j) : RRES hp B n lim r (LR.ok s j) := ⟨h1, h2, h3⟩
theorem RK_nil {t t' : Nat → Nat} {hp hp' : ab_H} {B : Nat → Int} {n lim i : Nat} (H : sf_h t hp) (f : sf_fr [] t hp t' hp') (h : RK hp B n lim i) : RK hp' B n lim i := RK_keep H f rfl rfl (sf_rl_cell (f.2.2.2.1 _ (bs_R.uq H (g := 11) (p := 69) rfl).1 rfl)) h
theorem SR_nil {t t' : Nat → Nat} {hp hp' : ab_H} {s : PS} (H : sf_h t hp) (f : sf_fr [] t hp t' hp') (h : SR hp s) : SR hp' s := SR_fr H f rfl rfl rfl rfl h
theorem RES_nil {t t' : Nat → Nat} {hp hp' : ab_H} (H : sf_h t hp) (f : sf_fr [] t hp t' hp') (h : RES hp) : RES hp' := RES_fr H f rfl h
theorem RK_k {hp : ab_H} {B : Nat → Int} {n lim i : Nat} {x : Int} (h : RK hp B n lim i) (e : sf_rd hp 69 11 = some x) : x = rkk (tok B n lim i).k := Option.some.inj (e.symm.trans h.1.2.2.1)
theorem RK_pl {hp : ab_H} {B : Nat → Int} {n lim i : Nat} (h : RK hp B n lim i) : sf_rd hp 69 12 = some (tok B n lim i).pl := h.1.1
theorem RK_v {hp : ab_H} {B : Nat → Int} {n lim i : Nat} {x : Int} (h : RK hp B n lim i) (k : (tok B n lim i).k = 3) (e : sf_rd hp 69 14 = some x) : x = (tok B n lim i).v := Option.some.inj (e.symm.trans (h.1.2.2.2.1 (by rw [k]; rfl)))
theorem RK_s {hp : ab_H} {B : Nat → Int} {n lim i : Nat} {x : Int} (h : RK hp B n lim i) (k : rkk (tok B n lim i).k = 3) (e : sf_rd hp 69 14 = some x) : x = (tok B n lim i).k := Option.some.inj (e.symm.trans (h.1.2.2.2.2.1 k))
theorem RK_w {hp : ab_H} {B : Nat → Int} {n lim i : Nat} (h : RK hp B n lim i) (k : rkk (tok B n lim i).k = 1) : ∃ w, sf_rl hp 69 17 = some w ∧ w.toInt = (tok B n lim i).v := h.1.2.2.2.2.2 k
theorem SR_load {hp hp' : ab_H} {s : PS} {v : Int} (h : SR hp s) (e : sf_rd hp' 72 2 = some v) (r : ∀ q, q ≠ 2 → sf_rd hp' 72 q = sf_rd hp 72 q) (e2 : sf_rd hp' 69 20 = some 1) (c6 : hp'.2 76 = hp.2 76) (c4 : hp'.2 74 = hp.2 74) : SR hp' (ups s.h 2 v, s.nm, true, s.tl) := by
  obtain ⟨a, b, c, d, f⟩ := h
  refine ⟨fun i hi => ?_, e2, fun w hw => by rw [sf_rd_cell c6]; exact c w hw, fun g hg => by rw [sf_rl_cell c4]; exact d g hg, fun g hg => by rw [sf_rl_cell c4]; exact f g hg⟩
  show _ = some (ups s.h 2 v i)
  by_cases x : i = 2
  · rw [x, ups_eq]
    exact e
  · rw [ups_ne x, r i x]
    exact a i hi
theorem SR_good {hp hp' : ab_H} {s : PS} {v : Int} (h : SR hp s) (h0 : 0 ≤ s.h 0) (h6 : s.h 0 ≤ 5) (e : sf_rd hp' 72 0 = some (s.h 0 + 1)) (r : ∀ q, q ≠ 0 → sf_rd hp' 72 q = sf_rd hp 72 q) (e2 : sf_rd hp' 69 20 = sf_rd hp 69 20) (c6 : hp'.2 76 = hp.2 76) (w1 : ∃ w, sf_rl hp' 74 (14 + (s.h 0).toNat) = some w ∧ w.toInt = v) (rl : ∀ q, q ≠ 14 + (s.h 0).toNat → sf_rl hp' 74 q = sf_rl hp 74 q) : SR hp' (ups s.h 0 (s.h 0 + 1), ups s.nm (s.h 0).toNat v, s.ld, s.tl) := by
  obtain ⟨a, b, c, d, f⟩ := h
  refine ⟨fun i hi => ?_, e2.trans b, fun w hw => by rw [sf_rd_cell c6]; exact c w hw, fun g hg => ?_, fun g hg => ?_⟩
  · show _ = some (ups s.h 0 (s.h 0 + 1) i)
    by_cases x : i = 0
    · rw [x, ups_eq]
      exact e
    · rw [ups_ne x, r i x]
      exact a i hi
  · have hg' : (g : Int) < s.h 0 + 1 := hg
    show ∃ w : Int64, _ ∧ w.toInt = ups s.nm (s.h 0).toNat v g
    by_cases x : g = (s.h 0).toNat
    · rw [x, ups_eq]
      exact w1
    · rw [ups_ne x, rl _ (by omega)]
      exact d g (by omega)
  · show ∃ w : Int64, _ ∧ w.toInt = ups s.nm (s.h 0).toNat v (6 + g)
    rw [ups_ne (by omega), rl _ (by omega)]
    exact f g hg
theorem SR_man {hp hp' : ab_H} {s : PS} {v d0 : Int} (h : SR hp s) (h0 : 0 ≤ s.h 0) (h06 : s.h 0 ≤ 6) (h1 : 0 ≤ s.h 1) (h7 : s.h 1 ≤ 7) (e : sf_rd hp' 72 1 = some (s.h 1 + 1)) (e5 : sf_rd hp' 72 (52 + (s.h 1).toNat) = some d0) (r : ∀ q, q ≠ 1 → q ≠ 52 + (s.h 1).toNat → sf_rd hp' 72 q = sf_rd hp 72 q) (e2 : sf_rd hp' 69 20 = sf_rd hp 69 20) (c6 : hp'.2 76 = hp.2 76) (w1 : ∃ w, sf_rl hp' 74 (20 + (s.h 1).toNat) = some w ∧ w.toInt = v) (rl : ∀ q, q ≠ 20 + (s.h 1).toNat → sf_rl hp' 74 q = sf_rl hp 74 q) : SR hp' (ups (ups s.h (52 + (s.h 1).toNat) d0) 1 (s.h 1 + 1), ups s.nm (6 + (s.h 1).toNat) v, s.ld, s.tl) := by
  obtain ⟨a, b, c, d, f⟩ := h
  refine ⟨fun i hi => ?_, e2.trans b, fun w hw => by rw [sf_rd_cell c6]; exact c w hw, fun g hg => ?_, fun g hg => ?_⟩
  · show _ = some (ups (ups s.h (52 + (s.h 1).toNat) d0) 1 (s.h 1 + 1) i)
    by_cases x : i = 1
    · rw [x, ups_eq]
      exact e
    · rw [ups_ne x]
      by_cases y : i = 52 + (s.h 1).toNat
      · rw [y, ups_eq]
        exact e5
      · rw [ups_ne y, r i x y]
        exact a i hi
  · have hg' : (g : Int) < s.h 0 := by
      have e9 : ups (ups s.h (52 + (s.h 1).toNat) d0) 1 (s.h 1 + 1) 0 = s.h 0 := (ups_ne (by omega)).trans (ups_ne (by omega))
      rw [← e9]
      exact hg
    show ∃ w : Int64, _ ∧ w.toInt = ups s.nm (6 + (s.h 1).toNat) v g
    rw [ups_ne (by omega), rl _ (by omega)]
    exact d g hg'
  · have hg' : (g : Int) < s.h 1 + 1 := hg
    show ∃ w : Int64, _ ∧ w.toInt = ups s.nm (6 + (s.h 1).toNat) v (6 + g)
    by_cases x : g = (s.h 1).toNat
    · rw [x, ups_eq]
      exact w1
    · rw [ups_ne (by omega), rl _ (by omega)]
      exact f g (by omega)
theorem SR_miss {hp hp' : ab_H} {s : PS} {m q d0 : Int} (h : SR hp s) (h3 : 0 ≤ s.h 3) (h19 : s.h 3 ≤ 19) (e : sf_rd hp' 72 3 = some (s.h 3 + 1)) (e6 : sf_rd hp' 72 (60 + (s.h 3).toNat) = some m) (e8 : sf_rd hp' 72 (80 + (s.h 3).toNat) = some q) (e1 : sf_rd hp' 72 (100 + (s.h 3).toNat) = some d0) (r : ∀ i, i ≠ 3 → i ≠ 60 + (s.h 3).toNat → i ≠ 80 + (s.h 3).toNat → i ≠ 100 + (s.h 3).toNat → sf_rd hp' 72 i = sf_rd hp 72 i) (e2 : sf_rd hp' 69 20 = sf_rd hp 69 20) (c6 : hp'.2 76 = hp.2 76) (c4 : hp'.2 74 = hp.2 74) : SR hp' (ups (ups (ups (ups s.h (60 + (s.h 3).toNat) m) (80 + (s.h 3).toNat) q) (100 + (s.h 3).toNat) d0) 3 (s.h 3 + 1), s.nm, s.ld, s.tl) := by
  obtain ⟨a, b, c, d, f⟩ := h
  have U : ∀ i, i ≠ 3 → i ≠ 60 + (s.h 3).toNat → i ≠ 80 + (s.h 3).toNat → i ≠ 100 + (s.h 3).toNat → ups (ups (ups (ups s.h (60 + (s.h 3).toNat) m) (80 + (s.h 3).toNat) q) (100 + (s.h 3).toNat) d0) 3 (s.h 3 + 1) i = s.h i := fun i x1 x2 x3 x4 => (ups_ne x1).trans ((ups_ne x4).trans ((ups_ne x3).trans (ups_ne x2)))
  refine ⟨fun i hi => ?_, e2.trans b, fun w hw => by rw [sf_rd_cell c6]; exact c w hw, fun g hg => ?_, fun g hg => ?_⟩
  · show _ = some (ups (ups (ups (ups s.h (60 + (s.h 3).toNat) m) (80 + (s.h 3).toNat) q) (100 + (s.h 3).toNat) d0) 3 (s.h 3 + 1) i)
    by_cases x : i = 3
    · rw [x, ups_eq]
      exact e
    · by_cases y : i = 100 + (s.h 3).toNat
      · rw [ups_ne x, y, ups_eq]
        exact e1
      · by_cases z : i = 80 + (s.h 3).toNat
        · rw [ups_ne x, ups_ne y, z, ups_eq]
          exact e8
        · by_cases u : i = 60 + (s.h 3).toNat
          · rw [ups_ne x, ups_ne y, ups_ne z, u, ups_eq]
            exact e6
          · rw [U i x u z y, r i x u z y]
            exact a i hi
  · have hg' : (g : Int) < s.h 0 := by
      rw [← U 0 (by omega) (by omega) (by omega) (by omega)]
      exact hg
    rw [sf_rl_cell c4]
    exact d g hg'
  · have hg' : (g : Int) < s.h 1 := by
      rw [← U 1 (by omega) (by omega) (by omega) (by omega)]
      exact hg
    rw [sf_rl_cell c4]
    exact f g hg'
theorem SR_amt {hp hp' : ab_H} {s : PS} {v A : Int} {wh k : Nat} (h : SR hp s) (hw : wh < 4) (hk : k < 12) (e : sf_rd hp' 72 (4 + (12 * wh + k)) = some v) (r : ∀ q, q ≠ 4 + (12 * wh + k) → sf_rd hp' 72 q = sf_rd hp 72 q) (e2 : sf_rd hp' 69 20 = sf_rd hp 69 20) (c4 : hp'.2 74 = hp.2 74) (t1 : sf_rd hp' 76 wh = some A) (tb : ∀ A0, sf_rd hp 76 wh = some A0 → ∀ j, j < 12 → ibit A j = (ibit A0 j || decide (j = k))) (tr : ∀ q, q ≠ wh → sf_rd hp' 76 q = sf_rd hp 76 q) : SR hp' (ups s.h (4 + (12 * wh + k)) v, s.nm, s.ld, ups s.tl (12 * wh + k) true) := by
  obtain ⟨a, b, c, d, f⟩ := h
  have U : ∀ i, i ≠ 4 + (12 * wh + k) → ups s.h (4 + (12 * wh + k)) v i = s.h i := fun i x => ups_ne x
  refine ⟨fun i hi => ?_, e2.trans b, fun w hw2 => ?_, fun g hg => ?_, fun g hg => ?_⟩
  · show _ = some (ups s.h (4 + (12 * wh + k)) v i)
    by_cases x : i = 4 + (12 * wh + k)
    · rw [x, ups_eq]
      exact e
    · rw [ups_ne x, r i x]
      exact a i hi
  · by_cases x : w = wh
    · subst x
      obtain ⟨A0, g1, g2⟩ := c w hw2
      refine ⟨A, t1, fun j hj => ?_⟩
      rw [tb A0 g1 j hj, g2 j hj]
      show _ = ups s.tl (12 * w + k) true (12 * w + j)
      rw [ups_or]
      congr 1
      exact decide_eq_decide.mpr (by omega)
    · obtain ⟨A0, g1, g2⟩ := c w hw2
      refine ⟨A0, (tr w x).trans g1, fun j hj => ?_⟩
      show _ = ups s.tl (12 * wh + k) true (12 * w + j)
      rw [ups_ne (by omega)]
      exact g2 j hj
  · have hg' : (g : Int) < s.h 0 := by
      rw [← U 0 (by omega)]
      exact hg
    rw [sf_rl_cell c4]
    exact d g hg'
  · have hg' : (g : Int) < s.h 1 := by
      rw [← U 1 (by omega)]
      exact hg
    rw [sf_rl_cell c4]
    exact f g hg'
theorem ib_of (x : Int32) (k : Nat) : ibit x.toInt k = x.toBitVec.getLsbD k := by
  unfold ibit
  rw [Int32.ofInt_toInt]
theorem ib_or {A y : Int32} {k j : Nat} {o : Int32} (ho : o.toInt = 1) (hy : y.toInt = (k : Int)) (hk : k < 12) (hj : j < 12) : ibit (A ||| (o <<< (y &&& 31))).toInt j = (ibit A.toInt j || decide (j = k)) := by
  obtain rfl : o = 1 := Int32.toInt_inj.mp ho
  obtain rfl : y = Int32.ofNat k := Int32.toInt_inj.mp (by rw [hy, Int32.toInt_ofNat_of_lt (by omega)])
  have tab : ∀ k, k < 12 → ∀ j, j < 12 → ((1 : Int32) <<< (Int32.ofNat k &&& 31)).toBitVec.getLsbD j = decide (j = k) := by decide +kernel
  rw [ib_of, ib_of, Int32.toBitVec_or, BitVec.getLsbD_or, tab k hk j hj]
theorem px_X11_bitOf {x y : Int32} {hp : ab_H} (h0 : 0 ≤ y.toInt) (h1 : y.toInt < 12) : ∃ z : Int32, Z_X11_bitOf [.int x, .int y] hp = some (some (.int z), hp) ∧ ((z.toInt = 1 ∧ ibit x.toInt y.toInt.toNat = true) ∨ (z.toInt = 0 ∧ ibit x.toInt y.toInt.toNat = false)) := by
  have key : ((x >>> (y &&& 31)) &&& 1).toInt = cond (ibit x.toInt y.toInt.toNat) 1 0 := by
    obtain ⟨k, hk, e⟩ : ∃ k : Nat, k < 12 ∧ y.toInt = (k : Int) := ⟨y.toInt.toNat, by omega, by omega⟩
    obtain rfl : y = Int32.ofNat k := Int32.toInt_inj.mp (by rw [e, Int32.toInt_ofNat_of_lt (by omega)])
    have sm : ∀ k, k < 12 → ((Int32.ofNat k &&& 31).toBitVec.smod 32).toNat = k := by decide +kernel
    rw [ib_of, show (Int32.ofNat k).toInt.toNat = k by omega]
    have es : (x >>> (Int32.ofNat k &&& 31)).toBitVec = x.toBitVec.sshiftRight' ((Int32.ofNat k &&& 31).toBitVec.smod 32) := rfl
    have eb : (x >>> (Int32.ofNat k &&& 31)).toBitVec.getLsbD 0 = x.toBitVec.getLsbD k := by
      rw [es, BitVec.sshiftRight_eq', sm k hk, BitVec.getLsbD_sshiftRight]
      simp only [Nat.add_zero]
      rw [if_pos (by omega)]
      simp
    have ez : (x >>> (Int32.ofNat k &&& 31)) &&& 1 = cond (x.toBitVec.getLsbD k) 1 0 := by
      apply Int32.toBitVec_inj.mp
      apply BitVec.eq_of_getLsbD_eq
      intro i hi
      have o1 : ∀ i, i < 32 → (1 : Int32).toBitVec.getLsbD i = decide (i = 0) := by decide +kernel
      have o0 : ∀ i, i < 32 → (0 : Int32).toBitVec.getLsbD i = false := by decide +kernel
      rw [Int32.toBitVec_and, BitVec.getLsbD_and, o1 i hi]
      by_cases c : i = 0
      · subst c
        rw [eb]
        cases x.toBitVec.getLsbD k
        · exact (o0 0 (by decide)).symm
        · exact (o1 0 (by decide)).symm
      · rw [decide_eq_false c, Bool.and_false]
        cases x.toBitVec.getLsbD k
        · exact (o0 i hi).symm
        · exact ((o1 i hi).trans (decide_eq_false c)).symm
    rw [ez]
    cases x.toBitVec.getLsbD k <;> rfl
  have h : ∃ o, ab_X (ab_T L_X11_bitOf) 2 [.int x, .int y] hp = some o ∧ ∃ z : Int32, o = (some (.int z), hp) ∧ ((z.toInt = 1 ∧ ibit x.toInt y.toInt.toNat = true) ∨ (z.toInt = 0 ∧ ibit x.toInt y.toInt.toNat = false)) := by
    refine ab_X_ev (Nat.le_of_ble_eq_true rfl) ?_
    refine Ev.step (j := 1) (s' := ([some (.int x), some (.int y)], [.int x], (0, 0), hp)) rfl rfl ?_
    refine Ev.step (j := 2) (s' := ([some (.int x), some (.int y)], [.int y, .int x], (0, 0), hp)) rfl rfl ?_
    refine Ev.step (j := 3) (s' := ([some (.int x), some (.int y)], [.int (x >>> (y &&& 31))], (0, 0), hp)) rfl rfl ?_
    refine Ev.step (j := 4) (s' := ([some (.int x), some (.int y)], [.int 1, .int (x >>> (y &&& 31))], (0, 0), hp)) rfl rfl ?_
    refine Ev.step (j := 5) (s' := ([some (.int x), some (.int y)], [.int ((x >>> (y &&& 31)) &&& 1)], (0, 0), hp)) rfl rfl ?_
    refine bs_lit (k := 1) rfl rfl fun z1 h1 => ?_
    refine bs_ne rfl (fun c => ?_) (fun c => ?_)
    · refine bs_lit (k := 0) rfl rfl fun z2 h2 => ?_
      refine bs_zret rfl rfl (by omega) (by omega) ⟨z2, rfl, Or.inr ⟨h2, ?_⟩⟩
      cases hb : ibit x.toInt y.toInt.toNat with
      | false => rfl
      | true =>
        rw [hb] at key
        exact absurd (key.trans h1.symm) c
    · refine bs_lit (k := 1) rfl rfl fun z2 h2 => ?_
      refine Ev.step (j := 14) (s' := ([some (.int x), some (.int y)], [.int z2], (0, 0), hp)) rfl rfl ?_
      refine bs_zret rfl rfl (by omega) (by omega) ⟨z2, rfl, Or.inl ⟨h2, ?_⟩⟩
      cases hb : ibit x.toInt y.toInt.toNat with
      | true => rfl
      | false =>
        rw [hb] at key
        have k0 : ((x >>> (y &&& 31)) &&& 1).toInt = (0 : Int) := key
        omega
  obtain ⟨o, g1, z, rfl, g2⟩ := h
  exact ⟨z, g1, g2⟩
theorem RRES_pos {hp : ab_H} {B : Nat → Int} {n lim : Nat} {z : Int32} {x : LR} (h : RRES hp B n lim (some (.int z)) x) (hz : z.toInt ≠ 0) : ∃ s j, x = LR.ok s j ∧ SR hp s ∧ RK hp B n lim j := by
  cases x with
  | inl p => exact ⟨p.1, p.2, rfl, h.2⟩
  | inr p =>
    obtain ⟨y, e, e2⟩ := h.1
    obtain rfl := Value.int.inj (Option.some.inj e)
    exact absurd e2 hz
theorem RRES_neg {hp : ab_H} {B : Nat → Int} {n lim : Nat} {z : Int32} {x : LR} (h : RRES hp B n lim (some (.int z)) x) (hz : z.toInt ≠ 1) : ∃ f j, x = LR.bad f j ∧ sf_rd hp 69 15 = some f ∧ sf_rd hp 69 16 = some (tok B n lim j).pl := by
  cases x with
  | inl p =>
    obtain ⟨y, e, e2⟩ := h.1
    obtain rfl := Value.int.inj (Option.some.inj e)
    exact absurd e2 hz
  | inr p => exact ⟨p.1, p.2, rfl, h.2⟩
theorem tkq_nx {B : Nat → Int} {n lim q : Nat} : q ≤ (tkq B n lim q).nx := by
  unfold tkq
  split
  · exact Nat.le_refl q
  · split
    · exact Nat.le_refl q
    · split
      · rw [trn_nx]
        exact Nat.le_add_right _ _
      · exact Nat.le_succ q
theorem tps_m1 {B : Nat → Int} {n lim i : Nat} : tps B n lim i ≤ tps B n lim (i + 1) := by
  have h1 := tkq_nx (B := B) (n := n) (lim := lim) (q := tk_e tk_b B n (tps B n lim i))
  have h2 := tk_e_ge (P := tk_b) (B := B) (n := n) (p := tps B n lim i)
  have h3 : tps B n lim (i + 1) = (tkq B n lim (tk_e tk_b B n (tps B n lim i))).nx := rfl
  omega
theorem tps_mono {B : Nat → Int} {n lim i : Nat} : ∀ d, tps B n lim i ≤ tps B n lim (i + d)
  | 0 => Nat.le_refl _
  | d + 1 => Nat.le_trans (tps_mono d) tps_m1
theorem tps_gt {B : Nat → Int} {n lim j : Nat} (h0 : (tok B n lim j).k ≠ 0) (h1 : (tok B n lim j).k ≠ 1) : tps B n lim j + 1 ≤ tps B n lim (j + 1) := by
  have h2 := (tkq_mv (B := B) (n := n) (lim := lim) (q := tk_e tk_b B n (tps B n lim j)) h0 h1).1
  have h3 := tk_e_ge (P := tk_b) (B := B) (n := n) (p := tps B n lim j)
  have h4 : tps B n lim (j + 1) = (tkq B n lim (tk_e tk_b B n (tps B n lim j))).nx := rfl
  omega
theorem SR_0 {hp : ab_H} (h : ∀ i, i < 120 → i ≠ 2 → sf_rd hp 72 i = some 0) (h2 : sf_rd hp 72 2 = some 10) (h20 : sf_rd hp 69 20 = some 0) (ht : ∀ w, w < 4 → sf_rd hp 76 w = some 0) : SR hp s0 := by
  refine ⟨fun i hi => ?_, h20, fun w hw => ⟨0, ht w hw, fun k hk => ?_⟩, fun g hg => absurd (show (g : Int) < 0 from hg) (by omega), fun g hg => absurd (show (g : Int) < 0 from hg) (by omega)⟩
  · by_cases c : i = 2
    · rw [c]
      exact h2
    · rw [s0_h c]
      exact h i hi c
  · have tab : ∀ k, k < 12 → ibit 0 k = false := by decide +kernel
    exact tab k hk
end
