def kq_X11_line_v : sf_Q := ([(1, 11, 0)], [], some (0, 0, 0), [(1, 0, 0, 0, 1, 0)], [(11, 4, 4), (11, 11, 18), (11, 20, 20), (133, 0, 119), (135, 0, 0), (137, 0, 3)])
def ke_X11_line_v (B : Nat → Int) (n lim i : Nat) (s : PS) : List Value → ab_H → Option Value → ab_H → Prop := fun as _ r hp' => as = [.ref 69] → RRES hp' B n lim r (lnx (tok B n lim) s i)
set_option maxRecDepth 100000 in
set_option maxHeartbeats 4000000 in
theorem cp_X11_line_v {B : Nat → Int} {n lim i : Nat} {s : PS} : sf_cG kq_X11_line_v Z_X11_line (fun hp => RK hp B n lim i ∧ SR hp s ∧ RES hp) (ke_X11_line_v B n lim i s) := by
  intro t hp as H hl hj hpre hG
  match as, hl with
  | [v0], _ =>
    obtain ⟨a0, rfl, ra0⟩ := bs_aR (hj 0 _ rfl)
    obtain rfl := ra0.eq H (p := 69) rfl
    clear hpre hj
    have F0 : sf_fr [(11, 4, 4), (11, 11, 18), (11, 20, 20), (133, 0, 119), (135, 0, 0), (137, 0, 3)] t hp t hp := sf_fr_rf
    refine bs_finx (E := (ke_X11_line_v B n lim i s)) (K := kq_X11_line_v) (L := (L_X11_line Z_X11_isWord Z_X11_bad Z_X11_next Z_X11_puts Z_X11_fresh Z_X11_readMisses Z_X11_takesName Z_X11_bitOf)) (nL := 4) (Nat.le_of_ble_eq_true rfl) ?_
    obtain ⟨Q, hQ⟩ : ∃ Q : ab_O → Prop, Q = (fun o => ∃ t', sf_h t' o.2 ∧ sf_fr (kq_X11_line_v).2.2.2.2 t hp t' o.2 ∧ sf_an t' o.2.1 (kq_X11_line_v).2.2.1 o.1 ∧ sf_S (sf_v1 o.1 [.ref 69] o.2) (kq_X11_line_v).2.2.2.1 ∧ (ke_X11_line_v B n lim i s) [.ref 69] hp o.1 o.2) := ⟨_, rfl⟩
    rw [← hQ]
    refine (show Ev (ab_T (L_X11_line Z_X11_isWord Z_X11_bad Z_X11_next Z_X11_puts Z_X11_fresh Z_X11_readMisses Z_X11_takesName Z_X11_bitOf)) 0 ([some (.ref 69), none, none, none], [], (0, 0), hp) Q from ?_)
    obtain ⟨hK, hS, hR⟩ := hG
    refine Ev.step (j := 1) (s' := ([some (.ref 69), none, none, none], [.ref 69], (0, 0), hp)) rfl rfl ?_
    refine Ev.step (j := 4) (s' := ([some (.ref 69), none, none, none], [.long (1819238756 : Int64), .ref 69], (0, 0), hp)) rfl rfl ?_
    refine bs_callx (K := kq_X11_isWord_v) [.ref 69, .long (1819238756 : Int64)] [] rfl ce_X11_isWord_v H rfl rfl rfl (bs_rcv (g := 11) H (bs_R.uq H (g := 11) rfl) (by decide) rfl) rfl ?_ (sf_S_nil) fun r1 hp2 thp2 Hhp2 fhp2 ahp2 php2 xhp2 => ?_
    · intro q k h
      match q, h with
      | 0, h => cases h; exact bs_jR (bs_R.uq H (g := 11) rfl)
      | 1, h => cases h; exact sf_j2
      | q + 2, h => cases h
    obtain ⟨z3, rfl⟩ := bs_anI ahp2
    have rgz3 := n_range z3
    have Fhp2 := sf_fr_tr F0 (sf_fr_wider (W := [(11, 4, 4), (11, 11, 18), (11, 20, 20), (133, 0, 119), (135, 0, 0), (137, 0, 3)]) rfl fhp2)
    obtain ⟨uz3, vz3⟩ := bs_s1 (x := z3.toInt) rfl (php2 _ (List.mem_of_getElem? (i := 0) rfl))
    refine (show Ev _ 7 ([some (.ref 69), none, none, none], [.int z3], (0, 0), hp2) _ from ?_)
    obtain ⟨zg4, rg4, ag4, bg4⟩ := xhp2 _ (tok B n lim i) 0 rfl hK.1 (tok_wok B n lim i) (tok_k88 B n lim i) (by decide) (by decide)
    obtain rfl := Value.int.inj (Option.some.inj rg4)
    have K5 := RK_nil H fhp2 hK
    have S6 := SR_nil H fhp2 hS
    have R7 := RES_nil H fhp2 hR
    refine bs_ifeq rfl (fun c8 => ?_) (fun c8 => ?_)
    · skip
      have c9 : z3.toInt = 0 := by omega
      refine Ev.step (j := 42) (s' := ([some (.ref 69), none, none, none], [.ref 69], (0, 0), hp2)) rfl rfl ?_
      refine Ev.step (j := 45) (s' := ([some (.ref 69), none, none, none], [.long (1735356260 : Int64), .ref 69], (0, 0), hp2)) rfl rfl ?_
      refine bs_callx (K := kq_X11_isWord_v) [.ref 69, .long (1735356260 : Int64)] [] rfl ce_X11_isWord_v Hhp2 rfl rfl rfl (bs_rcv (g := 11) Hhp2 (bs_R.uq Hhp2 (g := 11) rfl) (by decide) rfl) rfl ?_ (sf_S_nil) fun r10 hp11 thp11 Hhp11 fhp11 ahp11 php11 xhp11 => ?_
      · intro q k h
        match q, h with
        | 0, h => cases h; exact bs_jR (bs_R.uq Hhp2 (g := 11) rfl)
        | 1, h => cases h; exact sf_j2
        | q + 2, h => cases h
      obtain ⟨z12, rfl⟩ := bs_anI ahp11
      have rgz12 := n_range z12
      have Fhp11 := sf_fr_tr Fhp2 (sf_fr_wider (W := [(11, 4, 4), (11, 11, 18), (11, 20, 20), (133, 0, 119), (135, 0, 0), (137, 0, 3)]) rfl fhp11)
      obtain ⟨uz12, vz12⟩ := bs_s1 (x := z12.toInt) rfl (php11 _ (List.mem_of_getElem? (i := 0) rfl))
      refine (show Ev _ 48 ([some (.ref 69), none, none, none], [.int z12], (0, 0), hp11) _ from ?_)
      obtain ⟨zg13, rg13, ag13, bg13⟩ := xhp11 _ (tok B n lim i) 1 rfl K5.1 (tok_wok B n lim i) (tok_k88 B n lim i) (by decide) (by decide)
      obtain rfl := Value.int.inj (Option.some.inj rg13)
      have K14 := RK_nil Hhp2 fhp11 K5
      have S15 := SR_nil Hhp2 fhp11 S6
      have R16 := RES_nil Hhp2 fhp11 R7
      refine bs_ifeq rfl (fun c17 => ?_) (fun c17 => ?_)
      · skip
        have c18 : z12.toInt = 0 := by omega
        refine Ev.step (j := 103) (s' := ([some (.ref 69), none, none, none], [.ref 69], (0, 0), hp11)) rfl rfl ?_
        refine Ev.step (j := 106) (s' := ([some (.ref 69), none, none, none], [.long (7168366 : Int64), .ref 69], (0, 0), hp11)) rfl rfl ?_
        refine bs_callx (K := kq_X11_isWord_v) [.ref 69, .long (7168366 : Int64)] [] rfl ce_X11_isWord_v Hhp11 rfl rfl rfl (bs_rcv (g := 11) Hhp11 (bs_R.uq Hhp11 (g := 11) rfl) (by decide) rfl) rfl ?_ (sf_S_nil) fun r19 hp20 thp20 Hhp20 fhp20 ahp20 php20 xhp20 => ?_
        · intro q k h
          match q, h with
          | 0, h => cases h; exact bs_jR (bs_R.uq Hhp11 (g := 11) rfl)
          | 1, h => cases h; exact sf_j2
          | q + 2, h => cases h
        obtain ⟨z21, rfl⟩ := bs_anI ahp20
        have rgz21 := n_range z21
        have Fhp20 := sf_fr_tr Fhp11 (sf_fr_wider (W := [(11, 4, 4), (11, 11, 18), (11, 20, 20), (133, 0, 119), (135, 0, 0), (137, 0, 3)]) rfl fhp20)
        obtain ⟨uz21, vz21⟩ := bs_s1 (x := z21.toInt) rfl (php20 _ (List.mem_of_getElem? (i := 0) rfl))
        refine (show Ev _ 109 ([some (.ref 69), none, none, none], [.int z21], (0, 0), hp20) _ from ?_)
        obtain ⟨zg22, rg22, ag22, bg22⟩ := xhp20 _ (tok B n lim i) 6 rfl K14.1 (tok_wok B n lim i) (tok_k88 B n lim i) (by decide) (by decide)
        obtain rfl := Value.int.inj (Option.some.inj rg22)
        have K23 := RK_nil Hhp11 fhp20 K14
        have S24 := SR_nil Hhp11 fhp20 S15
        have R25 := RES_nil Hhp11 fhp20 R16
        refine bs_ifeq rfl (fun c26 => ?_) (fun c26 => ?_)
        · skip
          have c27 : z21.toInt = 0 := by omega
          refine Ev.step (j := 174) (s' := ([some (.ref 69), none, none, none], [.ref 69], (0, 0), hp20)) rfl rfl ?_
          refine Ev.step (j := 177) (s' := ([some (.ref 69), none, none, none], [.long (120299675936115 : Int64), .ref 69], (0, 0), hp20)) rfl rfl ?_
          refine bs_callx (K := kq_X11_isWord_v) [.ref 69, .long (120299675936115 : Int64)] [] rfl ce_X11_isWord_v Hhp20 rfl rfl rfl (bs_rcv (g := 11) Hhp20 (bs_R.uq Hhp20 (g := 11) rfl) (by decide) rfl) rfl ?_ (sf_S_nil) fun r28 hp29 thp29 Hhp29 fhp29 ahp29 php29 xhp29 => ?_
          · intro q k h
            match q, h with
            | 0, h => cases h; exact bs_jR (bs_R.uq Hhp20 (g := 11) rfl)
            | 1, h => cases h; exact sf_j2
            | q + 2, h => cases h
          obtain ⟨z30, rfl⟩ := bs_anI ahp29
          have rgz30 := n_range z30
          have Fhp29 := sf_fr_tr Fhp20 (sf_fr_wider (W := [(11, 4, 4), (11, 11, 18), (11, 20, 20), (133, 0, 119), (135, 0, 0), (137, 0, 3)]) rfl fhp29)
          obtain ⟨uz30, vz30⟩ := bs_s1 (x := z30.toInt) rfl (php29 _ (List.mem_of_getElem? (i := 0) rfl))
          refine (show Ev _ 180 ([some (.ref 69), none, none, none], [.int z30], (0, 0), hp29) _ from ?_)
          obtain ⟨zg31, rg31, ag31, bg31⟩ := xhp29 _ (tok B n lim i) 7 rfl K23.1 (tok_wok B n lim i) (tok_k88 B n lim i) (by decide) (by decide)
          obtain rfl := Value.int.inj (Option.some.inj rg31)
          have K32 := RK_nil Hhp20 fhp29 K23
          have S33 := SR_nil Hhp20 fhp29 S24
          have R34 := RES_nil Hhp20 fhp29 R25
          refine bs_ifeq rfl (fun c35 => ?_) (fun c35 => ?_)
          · skip
            have c36 : z30.toInt = 0 := by omega
            refine Ev.step (j := 189) (s' := ([some (.ref 69), none, none, none], [.ref 69], (0, 0), hp29)) rfl rfl ?_
            refine Ev.step (j := 192) (s' := ([some (.ref 69), none, none, none], [.long (495874696043 : Int64), .ref 69], (0, 0), hp29)) rfl rfl ?_
            refine bs_callx (K := kq_X11_isWord_v) [.ref 69, .long (495874696043 : Int64)] [] rfl ce_X11_isWord_v Hhp29 rfl rfl rfl (bs_rcv (g := 11) Hhp29 (bs_R.uq Hhp29 (g := 11) rfl) (by decide) rfl) rfl ?_ (sf_S_nil) fun r37 hp38 thp38 Hhp38 fhp38 ahp38 php38 xhp38 => ?_
            · intro q k h
              match q, h with
              | 0, h => cases h; exact bs_jR (bs_R.uq Hhp29 (g := 11) rfl)
              | 1, h => cases h; exact sf_j2
              | q + 2, h => cases h
            obtain ⟨z39, rfl⟩ := bs_anI ahp38
            have rgz39 := n_range z39
            have Fhp38 := sf_fr_tr Fhp29 (sf_fr_wider (W := [(11, 4, 4), (11, 11, 18), (11, 20, 20), (133, 0, 119), (135, 0, 0), (137, 0, 3)]) rfl fhp38)
            obtain ⟨uz39, vz39⟩ := bs_s1 (x := z39.toInt) rfl (php38 _ (List.mem_of_getElem? (i := 0) rfl))
            refine (show Ev _ 195 ([some (.ref 69), none, none, none], [.int z39], (0, 0), hp38) _ from ?_)
            obtain ⟨zg40, rg40, ag40, bg40⟩ := xhp38 _ (tok B n lim i) 2 rfl K32.1 (tok_wok B n lim i) (tok_k88 B n lim i) (by decide) (by decide)
            obtain rfl := Value.int.inj (Option.some.inj rg40)
            have K41 := RK_nil Hhp29 fhp38 K32
            have S42 := SR_nil Hhp29 fhp38 S33
            have R43 := RES_nil Hhp29 fhp38 R34
            refine bs_ifeq rfl (fun c44 => ?_) (fun c44 => ?_)
            · skip
              have c45 : z39.toInt = 0 := by omega
              refine Ev.step (j := 203) (s' := ([some (.ref 69), none, none, none], [.ref 69], (0, 0), hp38)) rfl rfl ?_
              refine Ev.step (j := 206) (s' := ([some (.ref 69), none, none, none], [.long (512735736947 : Int64), .ref 69], (0, 0), hp38)) rfl rfl ?_
              refine bs_callx (K := kq_X11_isWord_v) [.ref 69, .long (512735736947 : Int64)] [] rfl ce_X11_isWord_v Hhp38 rfl rfl rfl (bs_rcv (g := 11) Hhp38 (bs_R.uq Hhp38 (g := 11) rfl) (by decide) rfl) rfl ?_ (sf_S_nil) fun r46 hp47 thp47 Hhp47 fhp47 ahp47 php47 xhp47 => ?_
              · intro q k h
                match q, h with
                | 0, h => cases h; exact bs_jR (bs_R.uq Hhp38 (g := 11) rfl)
                | 1, h => cases h; exact sf_j2
                | q + 2, h => cases h
              obtain ⟨z48, rfl⟩ := bs_anI ahp47
              have rgz48 := n_range z48
              have Fhp47 := sf_fr_tr Fhp38 (sf_fr_wider (W := [(11, 4, 4), (11, 11, 18), (11, 20, 20), (133, 0, 119), (135, 0, 0), (137, 0, 3)]) rfl fhp47)
              obtain ⟨uz48, vz48⟩ := bs_s1 (x := z48.toInt) rfl (php47 _ (List.mem_of_getElem? (i := 0) rfl))
              refine (show Ev _ 209 ([some (.ref 69), none, none, none], [.int z48], (0, 0), hp47) _ from ?_)
              obtain ⟨zg49, rg49, ag49, bg49⟩ := xhp47 _ (tok B n lim i) 3 rfl K41.1 (tok_wok B n lim i) (tok_k88 B n lim i) (by decide) (by decide)
              obtain rfl := Value.int.inj (Option.some.inj rg49)
              have K50 := RK_nil Hhp38 fhp47 K41
              have S51 := SR_nil Hhp38 fhp47 S42
              have R52 := RES_nil Hhp38 fhp47 R43
              refine bs_ifeq rfl (fun c53 => ?_) (fun c53 => ?_)
              · skip
                have c54 : z48.toInt = 0 := by omega
                refine Ev.step (j := 217) (s' := ([some (.ref 69), none, none, none], [.ref 69], (0, 0), hp47)) rfl rfl ?_
                refine Ev.step (j := 220) (s' := ([some (.ref 69), none, none, none], [.long (1700885619 : Int64), .ref 69], (0, 0), hp47)) rfl rfl ?_
                refine bs_callx (K := kq_X11_isWord_v) [.ref 69, .long (1700885619 : Int64)] [] rfl ce_X11_isWord_v Hhp47 rfl rfl rfl (bs_rcv (g := 11) Hhp47 (bs_R.uq Hhp47 (g := 11) rfl) (by decide) rfl) rfl ?_ (sf_S_nil) fun r55 hp56 thp56 Hhp56 fhp56 ahp56 php56 xhp56 => ?_
                · intro q k h
                  match q, h with
                  | 0, h => cases h; exact bs_jR (bs_R.uq Hhp47 (g := 11) rfl)
                  | 1, h => cases h; exact sf_j2
                  | q + 2, h => cases h
                obtain ⟨z57, rfl⟩ := bs_anI ahp56
                have rgz57 := n_range z57
                have Fhp56 := sf_fr_tr Fhp47 (sf_fr_wider (W := [(11, 4, 4), (11, 11, 18), (11, 20, 20), (133, 0, 119), (135, 0, 0), (137, 0, 3)]) rfl fhp56)
                obtain ⟨uz57, vz57⟩ := bs_s1 (x := z57.toInt) rfl (php56 _ (List.mem_of_getElem? (i := 0) rfl))
                refine (show Ev _ 223 ([some (.ref 69), none, none, none], [.int z57], (0, 0), hp56) _ from ?_)
                obtain ⟨zg58, rg58, ag58, bg58⟩ := xhp56 _ (tok B n lim i) 4 rfl K50.1 (tok_wok B n lim i) (tok_k88 B n lim i) (by decide) (by decide)
                obtain rfl := Value.int.inj (Option.some.inj rg58)
                have K59 := RK_nil Hhp47 fhp56 K50
                have S60 := SR_nil Hhp47 fhp56 S51
                have R61 := RES_nil Hhp47 fhp56 R52
                refine bs_ifeq rfl (fun c62 => ?_) (fun c62 => ?_)
                · skip
                  have c63 : z57.toInt = 0 := by omega
                  refine Ev.step (j := 231) (s' := ([some (.ref 69), none, none, none], [.ref 69], (0, 0), hp56)) rfl rfl ?_
                  refine Ev.step (j := 234) (s' := ([some (.ref 69), none, none, none], [.long (469785863539 : Int64), .ref 69], (0, 0), hp56)) rfl rfl ?_
                  refine bs_callx (K := kq_X11_isWord_v) [.ref 69, .long (469785863539 : Int64)] [] rfl ce_X11_isWord_v Hhp56 rfl rfl rfl (bs_rcv (g := 11) Hhp56 (bs_R.uq Hhp56 (g := 11) rfl) (by decide) rfl) rfl ?_ (sf_S_nil) fun r64 hp65 thp65 Hhp65 fhp65 ahp65 php65 xhp65 => ?_
                  · intro q k h
                    match q, h with
                    | 0, h => cases h; exact bs_jR (bs_R.uq Hhp56 (g := 11) rfl)
                    | 1, h => cases h; exact sf_j2
                    | q + 2, h => cases h
                  obtain ⟨z66, rfl⟩ := bs_anI ahp65
                  have rgz66 := n_range z66
                  have Fhp65 := sf_fr_tr Fhp56 (sf_fr_wider (W := [(11, 4, 4), (11, 11, 18), (11, 20, 20), (133, 0, 119), (135, 0, 0), (137, 0, 3)]) rfl fhp65)
                  obtain ⟨uz66, vz66⟩ := bs_s1 (x := z66.toInt) rfl (php65 _ (List.mem_of_getElem? (i := 0) rfl))
                  refine (show Ev _ 237 ([some (.ref 69), none, none, none], [.int z66], (0, 0), hp65) _ from ?_)
                  obtain ⟨zg67, rg67, ag67, bg67⟩ := xhp65 _ (tok B n lim i) 5 rfl K59.1 (tok_wok B n lim i) (tok_k88 B n lim i) (by decide) (by decide)
                  obtain rfl := Value.int.inj (Option.some.inj rg67)
                  have K68 := RK_nil Hhp56 fhp65 K59
                  have S69 := SR_nil Hhp56 fhp65 S60
                  have R70 := RES_nil Hhp56 fhp65 R61
                  refine bs_ifeq rfl (fun c71 => ?_) (fun c71 => ?_)
                  · skip
                    have c72 : z66.toInt = 0 := by omega
                    refine bs_lit (k := -1) rfl rfl fun z73 hz73 => ?_
                    refine Ev.step (j := 246) (s' := ([some (.ref 69), some (.int z73), none, none], [], (0, 0), hp65)) rfl rfl ?_
                    refine Ev.step (j := 247) (s' := ([some (.ref 69), some (.int z73), none, none], [.int z73], (0, 0), hp65)) rfl rfl ?_
                    refine bs_ifge rfl (fun c74 => ?_) (fun c74 => ?_)
                    · exfalso; omega
                    · skip
                      refine Ev.step (j := 251) (s' := ([some (.ref 69), some (.int z73), none, none], [.ref 69], (0, 0), hp65)) rfl rfl ?_
                      refine bs_lit (k := 1) rfl rfl fun z75 hz75 => ?_
                      refine Ev.inl (L := L_X11_bad) (nL := 2) rfl (bs_rcv (g := 11) Hhp65 (bs_R.uq Hhp65 (g := 11) rfl) (by decide) rfl) rfl (Nat.le_of_ble_eq_true rfl) ?_
                      generalize hQ76 : (fun (o : ab_O) => Ev _ _ _ _) = Q76
                      refine (show Ev (ab_T L_X11_bad) 0 ([some (.ref 69), some (.int z75)], [], (0, 0), hp65) Q76 from ?_)
                      refine Ev.step (j := 1) (s' := ([some (.ref 69), some (.int z75)], [.ref 69], (0, 0), hp65)) rfl rfl ?_
                      refine Ev.step (j := 2) (s' := ([some (.ref 69), some (.int z75)], [.int z75, .ref 69], (0, 0), hp65)) rfl rfl ?_
                      refine bs_putIv (W := [(11, 15, 15)]) (g := 11) rfl rfl Hhp65 (bs_R.uq Hhp65 (g := 11) rfl) (by decide) rfl rfl rfl rfl (Or.inl rfl) (by omega) (by omega) fun hp77 Hhp77 fhp77 rhp77 ehp77 qhp77 nhp77 => ?_
                      have Fhp77 := sf_fr_tr Fhp65 (sf_fr_wider (W := [(11, 4, 4), (11, 11, 18), (11, 20, 20), (133, 0, 119), (135, 0, 0), (137, 0, 3)]) rfl fhp77)
                      refine Ev.step (j := 6) (s' := ([some (.ref 69), some (.int z75)], [.ref 69], (0, 0), hp77)) rfl rfl ?_
                      refine Ev.step (j := 7) (s' := ([some (.ref 69), some (.int z75)], [.ref 69, .ref 69], (0, 0), hp77)) rfl rfl ?_
                      refine bs_getI 11 rfl rfl rfl Hhp77 (bs_R.uq Hhp77 (g := 11) rfl) (by decide) rfl fun z78 hz78 lz78 gz78 => ?_
                      refine bs_putIv (W := [(11, 16, 16)]) (g := 11) rfl rfl Hhp77 (bs_R.uq Hhp77 (g := 11) rfl) (by decide) rfl rfl rfl rfl (Or.inl rfl) (by omega) (by omega) fun hp79 Hhp79 fhp79 rhp79 ehp79 qhp79 nhp79 => ?_
                      have Fhp79 := sf_fr_tr Fhp77 (sf_fr_wider (W := [(11, 4, 4), (11, 11, 18), (11, 20, 20), (133, 0, 119), (135, 0, 0), (137, 0, 3)]) rfl fhp79)
                      have h80 : sf_rd hp79 69 15 = some z75.toInt := (ehp79 _ _ (Or.inr (by omega))).trans rhp77
                      have h81 : sf_rd hp79 69 12 = some z78.toInt := (ehp79 _ _ (Or.inr (by omega))).trans hz78
                      refine bs_lit (k := 0) rfl rfl fun z82 hz82 => ?_
                      refine bs_zret rfl rfl (by omega) (by omega) ?_
                      rw [← hQ76]
                      refine (show Ev _ 255 ([some (.ref 69), some (.int z73), none, none], [.int z82], (0, 0), hp79) _ from ?_)
                      exact bs_zret rfl rfl (by omega) (by omega) (by rw [hQ]; exact ⟨thp65, Hhp79, Fhp79, bs_an0, sf_S_cons (sf_s1 (x := z82.toInt) rfl (by omega) (by omega)) (sf_S_nil), (fun _ => by
                              skip
                              rw [lnx_bad (by omega)]
                              have PL : z78.toInt = (tok B n lim i).pl := Option.some.inj (hz78.symm.trans (((ehp77 _ _ (Or.inr (by omega)))).trans (RK_pl K68)))
                              exact RRES_bad ⟨z82, rfl, by omega⟩ (h80.trans (congrArg some (by omega))) (rhp79.trans (congrArg some PL)))⟩)
                  · skip
                    refine bs_lit (k := 3) rfl rfl fun z83 hz83 => ?_
                    refine Ev.step (j := 245) (s' := ([some (.ref 69), none, none, none], [.int z83], (0, 0), hp65)) rfl rfl ?_
                    refine Ev.step (j := 246) (s' := ([some (.ref 69), some (.int z83), none, none], [], (0, 0), hp65)) rfl rfl ?_
                    refine Ev.step (j := 247) (s' := ([some (.ref 69), some (.int z83), none, none], [.int z83], (0, 0), hp65)) rfl rfl ?_
                    refine bs_ifge rfl (fun c84 => ?_) (fun c84 => ?_)
                    · skip
                      refine Ev.step (j := 257) (s' := ([some (.ref 69), some (.int z83), none, none], [.ref 69], (0, 0), hp65)) rfl rfl ?_
                      refine bs_callx (K := kq_X11_next_v) [.ref 69] [] rfl ce_X11_next_v Hhp65 rfl rfl rfl (bs_rcv (g := 11) Hhp65 (bs_R.uq Hhp65 (g := 11) rfl) (by decide) rfl) rfl ?_ (sf_S_nil) fun r85 hp86 thp86 Hhp86 fhp86 ahp86 php86 xhp86 => ?_
                      · intro q k h
                        match q, h with
                        | 0, h => cases h; exact bs_jR (bs_R.uq Hhp65 (g := 11) rfl)
                        | q + 1, h => cases h
                      obtain rfl := ahp86.1 rfl
                      have Fhp86 := sf_fr_tr Fhp65 (sf_fr_wider (W := [(11, 4, 4), (11, 11, 18), (11, 20, 20), (133, 0, 119), (135, 0, 0), (137, 0, 3)]) rfl fhp86)
                      refine (show Ev _ 260 ([some (.ref 69), some (.int z83), none, none], [], (0, 0), hp86) _ from ?_)
                      have K87 := (RK_next Hhp65 fhp86 rfl rfl rfl xhp86 K68).1
                      have R88 := RES_fr Hhp65 fhp86 rfl R70
                      have S89 := SR_fr Hhp65 fhp86 rfl rfl rfl rfl S69
                      refine Ev.step (j := 261) (s' := ([some (.ref 69), some (.int z83), none, none], [.ref 69], (0, 0), hp86)) rfl rfl ?_
                      refine bs_lit (k := 14) rfl rfl fun z90 hz90 => ?_
                      refine Ev.step (j := 264) (s' := ([some (.ref 69), some (.int z83), none, none], [.ref 69, .int z90, .ref 69], (0, 0), hp86)) rfl rfl ?_
                      refine bs_getU (g := 11) (g1 := 133) rfl rfl Hhp86 (bs_R.uq Hhp86 (g := 11) rfl) (by decide) rfl rfl ?_
                      refine bs_lit (k := 0) rfl rfl fun z91 hz91 => ?_
                      refine bs_ld (g := 133) 0 0 (0, 6) rfl Hhp86 (bs_R.uq Hhp86 (g := 133) rfl) (by decide) rfl (by decide) (by decide) rfl (by decide) (by omega) (by omega) fun z92 hz92 lz92 gz92 => ?_
                      dsimp only at lz92 gz92
                      replace hz92 := bs_at hz92 (show z91.toInt.toNat = 0 by omega)
                      have c0_z92 : z92.toInt = s.h 0 := Option.some.inj (hz92.symm.trans (S89.1 0 (by decide)))
                      refine bs_callx (K := kq_X11_takesName_v) [.ref 69, .int z90, .int z92] [] rfl ce_X11_takesName_v Hhp86 rfl rfl rfl (bs_rcv (g := 11) Hhp86 (bs_R.uq Hhp86 (g := 11) rfl) (by decide) rfl) rfl ?_ (sf_S_cons (sf_s1 (x := z90.toInt) rfl (by omega) (by omega)) (sf_S_cons (sf_s1 (x := z92.toInt) rfl (by omega) (by omega)) (sf_S_nil))) fun r93 hp94 thp94 Hhp94 fhp94 ahp94 php94 xhp94 => ?_
                      · intro q k h
                        match q, h with
                        | 0, h => cases h; exact bs_jR (bs_R.uq Hhp86 (g := 11) rfl)
                        | 1, h => cases h; exact sf_j0
                        | 2, h => cases h; exact sf_j0
                        | q + 3, h => cases h
                      obtain ⟨z95, rfl⟩ := bs_anI ahp94
                      have rgz95 := n_range z95
                      have Fhp94 := sf_fr_tr Fhp86 (sf_fr_wider (W := [(11, 4, 4), (11, 11, 18), (11, 20, 20), (133, 0, 119), (135, 0, 0), (137, 0, 3)]) rfl fhp94)
                      have h96 : sf_rd hp94 72 0 = some z92.toInt := (fhp94.2.2.1 _ (bs_R.uq Hhp86 (g := 133) (p := 72) rfl).1 _ (by rw [(bs_R.uq Hhp86 (g := 133) (p := 72) rfl).2]; rfl)).trans hz92
                      obtain ⟨uz95, vz95⟩ := bs_s1 (x := z95.toInt) rfl (php94 _ (List.mem_of_getElem? (i := 0) rfl))
                      refine (show Ev _ 272 ([some (.ref 69), some (.int z83), none, none], [.int z95], (0, 0), hp94) _ from ?_)
                      obtain ⟨q97, rq97, X98⟩ := xhp94 _ _ s.nm 0 B n lim (i + 1) rfl (fun k hk => by rw [show z90.toInt.toNat + k = 14 + k by omega, Nat.zero_add]; exact S89.2.2.2.1 k (by omega)) R88 K87
                      obtain rfl := Value.int.inj (Option.some.inj rq97)
                      rw [show z92.toInt = s.h 0 by omega] at X98
                      have R99 := RES_fr Hhp86 fhp94 rfl R88
                      have S100 := SR_fr Hhp86 fhp94 rfl rfl rfl rfl S89
                      refine bs_ifne rfl (fun c101 => ?_) (fun c101 => ?_)
                      · skip
                        obtain ⟨Y0X98, Y1X98, Y2X98, Y3X98, Y4X98⟩ := X98.resolve_right (fun h => absurd h.1 (by omega))
                        have K2X98 : RK hp94 B n lim (i + 2) := Y4X98
                        have FBX98 : fnd s.nm 0 (s.h 0) (tok B n lim (i + 1)).v ≤ 5 := by have := fnd_lt (nm := s.nm) (o := 0) (n := s.h 0) (v := (tok B n lim (i + 1)).v); omega
                        refine Ev.step (j := 278) (s' := ([some (.ref 69), some (.int z83), none, none], [.ref 69], (0, 0), hp94)) rfl rfl ?_
                        refine bs_getI 11 rfl rfl rfl Hhp94 (bs_R.uq Hhp94 (g := 11) rfl) (by decide) rfl fun z102 hz102 lz102 gz102 => ?_
                        have e103 : z102.toInt = (fnd s.nm 0 (s.h 0) (tok B n lim (i + 1)).v) := Option.some.inj (hz102.symm.trans Y3X98)
                        refine Ev.step (j := 282) (s' := ([some (.ref 69), some (.int z83), some (.int z102), none], [], (0, 0), hp94)) rfl rfl ?_
                        refine Ev.step (j := 283) (s' := ([some (.ref 69), some (.int z83), some (.int z102), none], [.ref 69], (0, 0), hp94)) rfl rfl ?_
                        refine bs_getI 11 rfl rfl rfl Hhp94 (bs_R.uq Hhp94 (g := 11) rfl) (by decide) rfl fun z104 hz104 lz104 gz104 => ?_
                        refine bs_lit (k := 2) rfl rfl fun z105 hz105 => ?_
                        refine bs_eq rfl (fun c106 => ?_) (fun c106 => ?_)
                        · skip
                          have c107 : z104.toInt = 2 := by omega
                          refine Ev.step (j := 297) (s' := ([some (.ref 69), some (.int z83), some (.int z102), none], [.ref 69], (0, 0), hp94)) rfl rfl ?_
                          refine bs_getI 11 rfl rfl rfl Hhp94 (bs_R.uq Hhp94 (g := 11) rfl) (by decide) rfl fun z108 hz108 lz108 gz108 => ?_
                          refine bs_lit (k := 1) rfl rfl fun z109 hz109 => ?_
                          refine bs_le rfl (fun c110 => ?_) (fun c110 => ?_)
                          · skip
                            have KT : (tok B n lim (i + 2)).k = 3 := rkk_2 (by have KK := RK_k K2X98 hz104; omega)
                            have VT := RK_v K2X98 KT hz108
                            have NT_ := tok_nok B n lim (i + 2) KT
                            refine bs_lit (k := 2) rfl rfl fun z111 hz111 => ?_
                            refine Ev.step (j := 312) (s' := ([some (.ref 69), some (.int z83), some (.int z102), none], [.int z102, .int z111], (0, 0), hp94)) rfl rfl ?_
                            refine bs_mul (2) rfl (Or.inl hz111) (by rw [hz111]; omega) (by rw [hz111]; omega) fun z112 hz112 => ?_
                            rw [hz111] at hz112
                            refine Ev.step (j := 314) (s' := ([some (.ref 69), some (.int z83), some (.int z102), none], [.ref 69, .int z112], (0, 0), hp94)) rfl rfl ?_
                            refine bs_getI 11 rfl rfl rfl Hhp94 (bs_R.uq Hhp94 (g := 11) rfl) (by decide) rfl fun z113 hz113 lz113 gz113 => ?_
                            have e114 : z113.toInt = z108.toInt := Option.some.inj (hz113.symm.trans hz108)
                            first | (refine bs_add rfl (by omega) (by omega) fun z115 hz115 => ?_) | (refine bs_any rfl fun z115 => ?_)
                            have rz115 := n_range z115
                            refine Ev.step (j := 319) (s' := ([some (.ref 69), some (.int z83), some (.int z102), some (.int z115)], [], (0, 0), hp94)) rfl rfl ?_
                            refine Ev.step (j := 320) (s' := ([some (.ref 69), some (.int z83), some (.int z102), some (.int z115)], [.ref 69], (0, 0), hp94)) rfl rfl ?_
                            refine bs_getU (g := 11) (g1 := 137) rfl rfl Hhp94 (bs_R.uq Hhp94 (g := 11) rfl) (by decide) rfl rfl ?_
                            refine Ev.step (j := 324) (s' := ([some (.ref 69), some (.int z83), some (.int z102), some (.int z115)], [.int z83, .ref 76], (0, 0), hp94)) rfl rfl ?_
                            refine bs_ld (g := 137) 0 3 (-2147483648, 2147483647) rfl Hhp94 (bs_R.uq Hhp94 (g := 137) rfl) (by decide) rfl (by decide) (by decide) rfl (by decide) (by omega) (by omega) fun z116 hz116 lz116 gz116 => ?_
                            dsimp only at lz116 gz116
                            replace hz116 := bs_at hz116 (show z83.toInt.toNat = 3 by omega)
                            refine Ev.step (j := 326) (s' := ([some (.ref 69), some (.int z83), some (.int z102), some (.int z115)], [.int z115, .int z116], (0, 0), hp94)) rfl rfl ?_
                            refine bs_pure [.int z116, .int z115] [] rfl rfl rfl rfl (px_X11_bitOf (by omega) (by omega)) fun z117 hz117 => ?_
                            refine (show Ev _ 329 ([some (.ref 69), some (.int z83), some (.int z102), some (.int z115)], [.int z117], (0, 0), hp94) _ from ?_)
                            rcases hz117 with ⟨ez117, tz117⟩ | ⟨ez117, tz117⟩
                            · skip
                              refine bs_ifeq rfl (fun c118 => ?_) (fun c118 => ?_)
                              · exfalso; omega
                              · skip
                                refine Ev.step (j := 333) (s' := ([some (.ref 69), some (.int z83), some (.int z102), some (.int z115)], [.ref 69], (0, 0), hp94)) rfl rfl ?_
                                refine bs_lit (k := 3) rfl rfl fun z119 hz119 => ?_
                                refine Ev.inl (L := L_X11_bad) (nL := 2) rfl (bs_rcv (g := 11) Hhp94 (bs_R.uq Hhp94 (g := 11) rfl) (by decide) rfl) rfl (Nat.le_of_ble_eq_true rfl) ?_
                                generalize hQ120 : (fun (o : ab_O) => Ev _ _ _ _) = Q120
                                refine (show Ev (ab_T L_X11_bad) 0 ([some (.ref 69), some (.int z119)], [], (0, 0), hp94) Q120 from ?_)
                                refine Ev.step (j := 1) (s' := ([some (.ref 69), some (.int z119)], [.ref 69], (0, 0), hp94)) rfl rfl ?_
                                refine Ev.step (j := 2) (s' := ([some (.ref 69), some (.int z119)], [.int z119, .ref 69], (0, 0), hp94)) rfl rfl ?_
                                refine bs_putIv (W := [(11, 15, 15)]) (g := 11) rfl rfl Hhp94 (bs_R.uq Hhp94 (g := 11) rfl) (by decide) rfl rfl rfl rfl (Or.inl rfl) (by omega) (by omega) fun hp121 Hhp121 fhp121 rhp121 ehp121 qhp121 nhp121 => ?_
                                have Fhp121 := sf_fr_tr Fhp94 (sf_fr_wider (W := [(11, 4, 4), (11, 11, 18), (11, 20, 20), (133, 0, 119), (135, 0, 0), (137, 0, 3)]) rfl fhp121)
                                have h122 : sf_rd hp121 72 0 = some z92.toInt := (ehp121 _ _ (Or.inl (by decide))).trans h96
                                have h123 : sf_rd hp121 69 18 = some (fnd s.nm 0 (s.h 0) (tok B n lim (i + 1)).v) := (ehp121 _ _ (Or.inr (by omega))).trans Y3X98
                                have h124 : sf_rd hp121 69 11 = some z104.toInt := (ehp121 _ _ (Or.inr (by omega))).trans hz104
                                have h125 : sf_rd hp121 69 14 = some z108.toInt := (ehp121 _ _ (Or.inr (by omega))).trans hz108
                                have h126 : sf_rd hp121 76 3 = some z116.toInt := (ehp121 _ _ (Or.inl (by decide))).trans hz116
                                refine Ev.step (j := 6) (s' := ([some (.ref 69), some (.int z119)], [.ref 69], (0, 0), hp121)) rfl rfl ?_
                                refine Ev.step (j := 7) (s' := ([some (.ref 69), some (.int z119)], [.ref 69, .ref 69], (0, 0), hp121)) rfl rfl ?_
                                refine bs_getI 11 rfl rfl rfl Hhp121 (bs_R.uq Hhp121 (g := 11) rfl) (by decide) rfl fun z127 hz127 lz127 gz127 => ?_
                                refine bs_putIv (W := [(11, 16, 16)]) (g := 11) rfl rfl Hhp121 (bs_R.uq Hhp121 (g := 11) rfl) (by decide) rfl rfl rfl rfl (Or.inl rfl) (by omega) (by omega) fun hp128 Hhp128 fhp128 rhp128 ehp128 qhp128 nhp128 => ?_
                                have Fhp128 := sf_fr_tr Fhp121 (sf_fr_wider (W := [(11, 4, 4), (11, 11, 18), (11, 20, 20), (133, 0, 119), (135, 0, 0), (137, 0, 3)]) rfl fhp128)
                                have h129 : sf_rd hp128 72 0 = some z92.toInt := (ehp128 _ _ (Or.inl (by decide))).trans h122
                                have h130 : sf_rd hp128 69 18 = some (fnd s.nm 0 (s.h 0) (tok B n lim (i + 1)).v) := (ehp128 _ _ (Or.inr (by omega))).trans h123
                                have h131 : sf_rd hp128 69 11 = some z104.toInt := (ehp128 _ _ (Or.inr (by omega))).trans h124
                                have h132 : sf_rd hp128 69 14 = some z108.toInt := (ehp128 _ _ (Or.inr (by omega))).trans h125
                                have h133 : sf_rd hp128 76 3 = some z116.toInt := (ehp128 _ _ (Or.inl (by decide))).trans h126
                                have h134 : sf_rd hp128 69 15 = some z119.toInt := (ehp128 _ _ (Or.inr (by omega))).trans rhp121
                                have h135 : sf_rd hp128 69 12 = some z127.toInt := (ehp128 _ _ (Or.inr (by omega))).trans hz127
                                refine bs_lit (k := 0) rfl rfl fun z136 hz136 => ?_
                                refine bs_zret rfl rfl (by omega) (by omega) ?_
                                rw [← hQ120]
                                refine (show Ev _ 337 ([some (.ref 69), some (.int z83), some (.int z102), some (.int z115)], [.int z136], (0, 0), hp128) _ from ?_)
                                exact bs_zret rfl rfl (by omega) (by omega) (by rw [hQ]; exact ⟨thp94, Hhp128, Fhp128, bs_an0, sf_S_cons (sf_s1 (x := z136.toInt) rfl (by omega) (by omega)) (sf_S_nil), (fun _ => by
                                        skip
                                        rw [lnx_amt (by omega), show ((tok B n lim i).k - 66).toNat = 3 by omega]
                                        show RRES _ _ _ _ _ (lold (tok B n lim) s 0 (s.h 0) (i + 1) _)
                                        rw [lold_o Y1X98 (by omega)]
                                        have K3 : (tok B n lim (i + 2)).k = 3 := rkk_2 (by have KK := RK_k K2X98 hz104; omega)
                                        have VV := RK_v K2X98 K3 hz108
                                        have N9 := tok_nok B n lim (i + 2) K3
                                        rw [lnum_o K3 (by omega) (by omega)]
                                        have EK : (2 * fnd s.nm 0 (s.h 0) (tok B n lim (i + 1)).v + (tok B n lim (i + 2)).v).toNat = z115.toInt.toNat := by omega
                                        rw [EK]
                                        obtain ⟨A9, hA9, hB9⟩ := S100.2.2.1 3 (by decide)
                                        have EA : z116.toInt = A9 := Option.some.inj (hz116.symm.trans hA9)
                                        have TB9 := hB9 z115.toInt.toNat (by omega)
                                        rw [← EA, tz117] at TB9
                                        rw [if_pos TB9.symm]
                                        have PL : z127.toInt = (tok B n lim (i + 2)).pl := Option.some.inj (hz127.symm.trans (((ehp121 _ _ (Or.inr (by omega)))).trans (RK_pl K2X98)))
                                        exact RRES_bad ⟨z136, rfl, by omega⟩ (h134.trans (congrArg some (by omega))) (rhp128.trans (congrArg some PL)))⟩)
                            · skip
                              refine bs_ifeq rfl (fun c137 => ?_) (fun c137 => ?_)
                              · skip
                                refine Ev.step (j := 339) (s' := ([some (.ref 69), some (.int z83), some (.int z102), some (.int z115)], [.ref 69], (0, 0), hp94)) rfl rfl ?_
                                refine bs_getU (g := 11) (g1 := 137) rfl rfl Hhp94 (bs_R.uq Hhp94 (g := 11) rfl) (by decide) rfl rfl ?_
                                refine Ev.step (j := 343) (s' := ([some (.ref 69), some (.int z83), some (.int z102), some (.int z115)], [.int z83, .ref 76], (0, 0), hp94)) rfl rfl ?_
                                refine Ev.step (j := 344) (s' := ([some (.ref 69), some (.int z83), some (.int z102), some (.int z115)], [.int z83, .ref 76, .int z83, .ref 76], (0, 0), hp94)) rfl rfl ?_
                                refine bs_ld (g := 137) 0 3 (-2147483648, 2147483647) rfl Hhp94 (bs_R.uq Hhp94 (g := 137) rfl) (by decide) rfl (by decide) (by decide) rfl (by decide) (by omega) (by omega) fun z138 hz138 lz138 gz138 => ?_
                                dsimp only at lz138 gz138
                                replace hz138 := bs_at hz138 (show z83.toInt.toNat = 3 by omega)
                                have e139 : z138.toInt = z116.toInt := Option.some.inj (hz138.symm.trans hz116)
                                refine bs_lit (k := 1) rfl rfl fun z140 hz140 => ?_
                                refine Ev.step (j := 347) (s' := ([some (.ref 69), some (.int z83), some (.int z102), some (.int z115)], [.int z115, .int z140, .int z138, .int z83, .ref 76], (0, 0), hp94)) rfl rfl ?_
                                refine Ev.step (j := 348) (s' := ([some (.ref 69), some (.int z83), some (.int z102), some (.int z115)], [.int (z140 <<< (z115 &&& 31)), .int z138, .int z83, .ref 76], (0, 0), hp94)) rfl rfl ?_
                                have rz141 := n_range (z140 <<< (z115 &&& 31))
                                refine Ev.step (j := 349) (s' := ([some (.ref 69), some (.int z83), some (.int z102), some (.int z115)], [.int (z138 ||| (z140 <<< (z115 &&& 31))), .int z83, .ref 76], (0, 0), hp94)) rfl rfl ?_
                                have rz142 := n_range (z138 ||| (z140 <<< (z115 &&& 31)))
                                refine bs_stv (W := [(137, 0, 3)]) (g := 137) 0 3 (-2147483648, 2147483647) rfl Hhp94 (bs_R.uq Hhp94 (g := 137) rfl) (by decide) rfl rfl (by decide) rfl rfl (by omega) (by omega) (by dsimp only; omega) (by dsimp only; omega) fun hp143 Hhp143 fhp143 rhp143 ehp143 qhp143 nhp143 => ?_
                                replace rhp143 := bs_at rhp143 (show z83.toInt.toNat = 3 by omega)
                                have Fhp143 := sf_fr_tr Fhp94 (sf_fr_wider (W := [(11, 4, 4), (11, 11, 18), (11, 20, 20), (133, 0, 119), (135, 0, 0), (137, 0, 3)]) rfl fhp143)
                                have h144 : sf_rd hp143 72 0 = some z92.toInt := (ehp143 _ _ (Or.inl (by decide))).trans h96
                                have h145 : sf_rd hp143 69 18 = some (fnd s.nm 0 (s.h 0) (tok B n lim (i + 1)).v) := (ehp143 _ _ (Or.inl (by decide))).trans Y3X98
                                have h146 : sf_rd hp143 69 11 = some z104.toInt := (ehp143 _ _ (Or.inl (by decide))).trans hz104
                                have h147 : sf_rd hp143 69 14 = some z108.toInt := (ehp143 _ _ (Or.inl (by decide))).trans hz108
                                have K148 := RK_keep Hhp94 fhp143 rfl rfl (nhp143 _ _) K2X98
                                have R149 := RES_fr Hhp94 fhp143 rfl R99
                                refine Ev.step (j := 351) (s' := ([some (.ref 69), some (.int z83), some (.int z102), some (.int z115)], [.ref 69], (0, 0), hp143)) rfl rfl ?_
                                refine bs_callx (K := kq_X11_next_v) [.ref 69] [] rfl ce_X11_next_v Hhp143 rfl rfl rfl (bs_rcv (g := 11) Hhp143 (bs_R.uq Hhp143 (g := 11) rfl) (by decide) rfl) rfl ?_ (sf_S_nil) fun r150 hp151 thp151 Hhp151 fhp151 ahp151 php151 xhp151 => ?_
                                · intro q k h
                                  match q, h with
                                  | 0, h => cases h; exact bs_jR (bs_R.uq Hhp143 (g := 11) rfl)
                                  | q + 1, h => cases h
                                obtain rfl := ahp151.1 rfl
                                have Fhp151 := sf_fr_tr Fhp143 (sf_fr_wider (W := [(11, 4, 4), (11, 11, 18), (11, 20, 20), (133, 0, 119), (135, 0, 0), (137, 0, 3)]) rfl fhp151)
                                have h152 : sf_rd hp151 72 0 = some z92.toInt := (fhp151.2.2.1 _ (bs_R.uq Hhp143 (g := 133) (p := 72) rfl).1 _ (by rw [(bs_R.uq Hhp143 (g := 133) (p := 72) rfl).2]; rfl)).trans h144
                                have h153 : sf_rd hp151 69 18 = some (fnd s.nm 0 (s.h 0) (tok B n lim (i + 1)).v) := (fhp151.2.2.1 _ (bs_R.uq Hhp143 (g := 11) (p := 69) rfl).1 _ (by rw [(bs_R.uq Hhp143 (g := 11) (p := 69) rfl).2]; rfl)).trans h145
                                have h154 : sf_rd hp151 76 3 = some (z138 ||| (z140 <<< (z115 &&& 31))).toInt := (fhp151.2.2.1 _ (bs_R.uq Hhp143 (g := 137) (p := 76) rfl).1 _ (by rw [(bs_R.uq Hhp143 (g := 137) (p := 76) rfl).2]; rfl)).trans rhp143
                                refine (show Ev _ 354 ([some (.ref 69), some (.int z83), some (.int z102), some (.int z115)], [], (0, 0), hp151) _ from ?_)
                                have K155 := (RK_next Hhp143 fhp151 rfl rfl rfl xhp151 K148).1
                                have R156 := RES_fr Hhp143 fhp151 rfl R149
                                refine Ev.step (j := 355) (s' := ([some (.ref 69), some (.int z83), some (.int z102), some (.int z115)], [.ref 69], (0, 0), hp151)) rfl rfl ?_
                                refine bs_lit (k := 4) rfl rfl fun z157 hz157 => ?_
                                refine bs_lit (k := 12) rfl rfl fun z158 hz158 => ?_
                                refine Ev.step (j := 359) (s' := ([some (.ref 69), some (.int z83), some (.int z102), some (.int z115)], [.int z83, .int z158, .int z157, .ref 69], (0, 0), hp151)) rfl rfl ?_
                                refine bs_mul (3) rfl (Or.inr hz83) (by rw [hz83]; omega) (by rw [hz83]; omega) fun z159 hz159 => ?_
                                rw [hz83] at hz159
                                first | (refine bs_add rfl (by omega) (by omega) fun z160 hz160 => ?_) | (refine bs_any rfl fun z160 => ?_)
                                have rz160 := n_range z160
                                refine Ev.step (j := 362) (s' := ([some (.ref 69), some (.int z83), some (.int z102), some (.int z115)], [.int z115, .int z160, .ref 69], (0, 0), hp151)) rfl rfl ?_
                                first | (refine bs_add rfl (by omega) (by omega) fun z161 hz161 => ?_) | (refine bs_any rfl fun z161 => ?_)
                                have rz161 := n_range z161
                                refine bs_lit (k := 0) rfl rfl fun z162 hz162 => ?_
                                refine Ev.step (j := 365) (s' := ([some (.ref 69), some (.int z83), some (.int z102), some (.int z115)], [.int z83, .int z162, .int z161, .ref 69], (0, 0), hp151)) rfl rfl ?_
                                refine bs_lit (k := 2) rfl rfl fun z163 hz163 => ?_
                                refine bs_ge rfl (fun c164 => ?_) (fun c164 => ?_)
                                · skip
                                  refine bs_lit (k := 20) rfl rfl fun z165 hz165 => ?_
                                  refine bs_callx (K := kq_X11_puts_v2) [.ref 69, .int z161, .int z162, .int z165] [] rfl ce_X11_puts_v2 Hhp151 rfl rfl rfl (bs_rcv (g := 11) Hhp151 (bs_R.uq Hhp151 (g := 11) rfl) (by decide) rfl) rfl ?_ (sf_S_cons (sf_s1 (x := z161.toInt) rfl (by omega) (by omega)) (sf_S_cons (sf_s1 (x := z162.toInt) rfl (by omega) (by omega)) (sf_S_cons (sf_s1 (x := z165.toInt) rfl (by omega) (by omega)) (sf_S_nil)))) fun r166 hp167 thp167 Hhp167 fhp167 ahp167 php167 xhp167 => ?_
                                  · intro q k h
                                    match q, h with
                                    | 0, h => cases h; exact bs_jR (bs_R.uq Hhp151 (g := 11) rfl)
                                    | 1, h => cases h; exact sf_j0
                                    | 2, h => cases h; exact sf_j0
                                    | 3, h => cases h; exact sf_j0
                                    | q + 4, h => cases h
                                  obtain ⟨z168, rfl⟩ := bs_anI ahp167
                                  have rgz168 := n_range z168
                                  have Fhp167 := sf_fr_tr Fhp151 (sf_fr_wider (W := [(11, 4, 4), (11, 11, 18), (11, 20, 20), (133, 0, 119), (135, 0, 0), (137, 0, 3)]) rfl fhp167)
                                  have h169 : sf_rd hp167 72 0 = some z92.toInt := (fhp167.2.2.1 _ (bs_R.uq Hhp151 (g := 133) (p := 72) rfl).1 _ (by rw [(bs_R.uq Hhp151 (g := 133) (p := 72) rfl).2]; rfl)).trans h152
                                  have h170 : sf_rd hp167 76 3 = some (z138 ||| (z140 <<< (z115 &&& 31))).toInt := (fhp167.2.2.1 _ (bs_R.uq Hhp151 (g := 137) (p := 76) rfl).1 _ (by rw [(bs_R.uq Hhp151 (g := 137) (p := 76) rfl).2]; rfl)).trans h154
                                  obtain ⟨uz168, vz168⟩ := bs_s1 (x := z168.toInt) rfl (php167 _ (List.mem_of_getElem? (i := 0) rfl))
                                  refine (show Ev _ 380 ([some (.ref 69), some (.int z83), some (.int z102), some (.int z115)], [.int z168], (0, 0), hp167) _ from ?_)
                                  obtain ⟨q171, rq171, X172⟩ := xhp167 _ _ _ B n lim (i + 3) rfl K155
                                  obtain rfl := Value.int.inj (Option.some.inj rq171)
                                  exact bs_zret rfl rfl (by omega) (by omega) (by rw [hQ]; exact ⟨thp167, Hhp167, Fhp167, bs_an0, sf_S_cons (sf_s1 (x := z168.toInt) rfl (by omega) (by omega)) (sf_S_nil), (fun _ => by
                                          skip
                                          rw [lnx_amt (by omega), show ((tok B n lim i).k - 66).toNat = 3 by omega]
                                          show RRES _ _ _ _ _ (lold (tok B n lim) s 0 (s.h 0) (i + 1) _)
                                          rw [lold_o Y1X98 (by omega)]
                                          have K3 : (tok B n lim (i + 2)).k = 3 := rkk_2 (by have KK := RK_k K2X98 hz104; omega)
                                          have VV := RK_v K2X98 K3 hz108
                                          have N9 := tok_nok B n lim (i + 2) K3
                                          rw [lnum_o K3 (by omega) (by omega)]
                                          have EK : (2 * fnd s.nm 0 (s.h 0) (tok B n lim (i + 1)).v + (tok B n lim (i + 2)).v).toNat = z115.toInt.toNat := by omega
                                          rw [EK]
                                          obtain ⟨A9, hA9, hB9⟩ := S100.2.2.1 3 (by decide)
                                          have EA : z116.toInt = A9 := Option.some.inj (hz116.symm.trans hA9)
                                          have TB9 := hB9 z115.toInt.toNat (by omega)
                                          rw [← EA, tz117] at TB9
                                          rw [if_neg (by rw [← TB9]; decide)]
                                          rw [show (if (3 : Nat) = 2 ∨ (3 : Nat) = 3 then (20 : Int) else 250) = 20 from if_pos (by decide)]
                                          rcases X172 with ⟨Y0, Y1, Y2, Y3, Y4, Y5, Y6⟩ | ⟨Y0, P1, ⟨P2, P3⟩ | ⟨⟨P2, P4⟩, P3⟩⟩
                                          · rw [lnum_o Y1 (by omega) (by omega)]
                                            have EP : z161.toInt.toNat = 4 + (12 * 3 + z115.toInt.toNat) := by omega
                                            rw [EP] at Y4 Y5
                                            exact RRES_ok ⟨z168, rfl, by omega⟩ (SR_amt S100 (by decide) (by omega) Y4 (fun q hq => (Y5 q hq).trans (((fhp151.2.2.1 _ (bs_R.uq Hhp143 (g := 133) (p := 72) rfl).1 _ (by rw [(bs_R.uq Hhp143 (g := 133) (p := 72) rfl).2]; rfl)).trans (ehp143 _ _ (Or.inl (by decide)))))) (((fhp167.2.2.1 _ (bs_R.uq Hhp151 (g := 11) (p := 69) rfl).1 _ (by rw [(bs_R.uq Hhp151 (g := 11) (p := 69) rfl).2]; rfl)).trans ((fhp151.2.2.1 _ (bs_R.uq Hhp143 (g := 11) (p := 69) rfl).1 _ (by rw [(bs_R.uq Hhp143 (g := 11) (p := 69) rfl).2]; rfl)).trans (ehp143 _ _ (Or.inl (by decide)))))) (((fhp167.2.2.2.1 _ (bs_R.uq Hhp151 (g := 135) (p := 74) rfl).1 (by rw [(bs_R.uq Hhp151 (g := 135) (p := 74) rfl).2]; rfl)).trans ((fhp151.2.2.2.1 _ (bs_R.uq Hhp143 (g := 135) (p := 74) rfl).1 (by rw [(bs_R.uq Hhp143 (g := 135) (p := 74) rfl).2]; rfl)).trans (fhp143.2.2.2.1 _ (bs_R.uq Hhp94 (g := 135) rfl).1 (by rw [(bs_R.uq Hhp94 (g := 135) rfl).2]; rfl))))) (bs_at h170 (by omega)) (fun A0 hA0 j hj => by rw [show A0 = z138.toInt from (Option.some.inj (hA0.symm.trans hz116)).trans (by omega)]; exact ib_or (by omega) (by omega) (by omega) hj) (fun q hq => ((fhp167.2.2.1 _ (bs_R.uq Hhp151 (g := 137) (p := 76) rfl).1 _ (by rw [(bs_R.uq Hhp151 (g := 137) (p := 76) rfl).2]; rfl)).trans ((fhp151.2.2.1 _ (bs_R.uq Hhp143 (g := 137) (p := 76) rfl).1 _ (by rw [(bs_R.uq Hhp143 (g := 137) (p := 76) rfl).2]; rfl)).trans (ehp143 _ _ (Or.inr (by omega))))))) Y6
                                          · rw [lnum_1 P2]
                                            exact RRES_bad ⟨z168, rfl, by omega⟩ P3 P1
                                          · rw [lnum_2 P2 (by omega)]
                                            exact RRES_bad ⟨z168, rfl, by omega⟩ P3 P1)⟩)
                                · exfalso; omega
                              · exfalso; omega
                          · skip
                            refine Ev.step (j := 305) (s' := ([some (.ref 69), some (.int z83), some (.int z102), none], [.ref 69], (0, 0), hp94)) rfl rfl ?_
                            refine bs_lit (k := 2) rfl rfl fun z173 hz173 => ?_
                            refine Ev.inl (L := L_X11_bad) (nL := 2) rfl (bs_rcv (g := 11) Hhp94 (bs_R.uq Hhp94 (g := 11) rfl) (by decide) rfl) rfl (Nat.le_of_ble_eq_true rfl) ?_
                            generalize hQ174 : (fun (o : ab_O) => Ev _ _ _ _) = Q174
                            refine (show Ev (ab_T L_X11_bad) 0 ([some (.ref 69), some (.int z173)], [], (0, 0), hp94) Q174 from ?_)
                            refine Ev.step (j := 1) (s' := ([some (.ref 69), some (.int z173)], [.ref 69], (0, 0), hp94)) rfl rfl ?_
                            refine Ev.step (j := 2) (s' := ([some (.ref 69), some (.int z173)], [.int z173, .ref 69], (0, 0), hp94)) rfl rfl ?_
                            refine bs_putIv (W := [(11, 15, 15)]) (g := 11) rfl rfl Hhp94 (bs_R.uq Hhp94 (g := 11) rfl) (by decide) rfl rfl rfl rfl (Or.inl rfl) (by omega) (by omega) fun hp175 Hhp175 fhp175 rhp175 ehp175 qhp175 nhp175 => ?_
                            have Fhp175 := sf_fr_tr Fhp94 (sf_fr_wider (W := [(11, 4, 4), (11, 11, 18), (11, 20, 20), (133, 0, 119), (135, 0, 0), (137, 0, 3)]) rfl fhp175)
                            have h176 : sf_rd hp175 72 0 = some z92.toInt := (ehp175 _ _ (Or.inl (by decide))).trans h96
                            have h177 : sf_rd hp175 69 18 = some (fnd s.nm 0 (s.h 0) (tok B n lim (i + 1)).v) := (ehp175 _ _ (Or.inr (by omega))).trans Y3X98
                            have h178 : sf_rd hp175 69 11 = some z104.toInt := (ehp175 _ _ (Or.inr (by omega))).trans hz104
                            have h179 : sf_rd hp175 69 14 = some z108.toInt := (ehp175 _ _ (Or.inr (by omega))).trans hz108
                            refine Ev.step (j := 6) (s' := ([some (.ref 69), some (.int z173)], [.ref 69], (0, 0), hp175)) rfl rfl ?_
                            refine Ev.step (j := 7) (s' := ([some (.ref 69), some (.int z173)], [.ref 69, .ref 69], (0, 0), hp175)) rfl rfl ?_
                            refine bs_getI 11 rfl rfl rfl Hhp175 (bs_R.uq Hhp175 (g := 11) rfl) (by decide) rfl fun z180 hz180 lz180 gz180 => ?_
                            refine bs_putIv (W := [(11, 16, 16)]) (g := 11) rfl rfl Hhp175 (bs_R.uq Hhp175 (g := 11) rfl) (by decide) rfl rfl rfl rfl (Or.inl rfl) (by omega) (by omega) fun hp181 Hhp181 fhp181 rhp181 ehp181 qhp181 nhp181 => ?_
                            have Fhp181 := sf_fr_tr Fhp175 (sf_fr_wider (W := [(11, 4, 4), (11, 11, 18), (11, 20, 20), (133, 0, 119), (135, 0, 0), (137, 0, 3)]) rfl fhp181)
                            have h182 : sf_rd hp181 72 0 = some z92.toInt := (ehp181 _ _ (Or.inl (by decide))).trans h176
                            have h183 : sf_rd hp181 69 18 = some (fnd s.nm 0 (s.h 0) (tok B n lim (i + 1)).v) := (ehp181 _ _ (Or.inr (by omega))).trans h177
                            have h184 : sf_rd hp181 69 11 = some z104.toInt := (ehp181 _ _ (Or.inr (by omega))).trans h178
                            have h185 : sf_rd hp181 69 14 = some z108.toInt := (ehp181 _ _ (Or.inr (by omega))).trans h179
                            have h186 : sf_rd hp181 69 15 = some z173.toInt := (ehp181 _ _ (Or.inr (by omega))).trans rhp175
                            have h187 : sf_rd hp181 69 12 = some z180.toInt := (ehp181 _ _ (Or.inr (by omega))).trans hz180
                            refine bs_lit (k := 0) rfl rfl fun z188 hz188 => ?_
                            refine bs_zret rfl rfl (by omega) (by omega) ?_
                            rw [← hQ174]
                            refine (show Ev _ 309 ([some (.ref 69), some (.int z83), some (.int z102), none], [.int z188], (0, 0), hp181) _ from ?_)
                            exact bs_zret rfl rfl (by omega) (by omega) (by rw [hQ]; exact ⟨thp94, Hhp181, Fhp181, bs_an0, sf_S_cons (sf_s1 (x := z188.toInt) rfl (by omega) (by omega)) (sf_S_nil), (fun _ => by
                                    skip
                                    rw [lnx_amt (by omega), show ((tok B n lim i).k - 66).toNat = 3 by omega]
                                    show RRES _ _ _ _ _ (lold (tok B n lim) s 0 (s.h 0) (i + 1) _)
                                    rw [lold_o Y1X98 (by omega)]
                                    have K3 : (tok B n lim (i + 2)).k = 3 := rkk_2 (by have KK := RK_k K2X98 hz104; omega)
                                    have VV := RK_v K2X98 K3 hz108
                                    have N9 := tok_nok B n lim (i + 2) K3
                                    rw [lnum_2 K3 (by omega)]
                                    have PL : z180.toInt = (tok B n lim (i + 2)).pl := Option.some.inj (hz180.symm.trans (((ehp175 _ _ (Or.inr (by omega)))).trans (RK_pl K2X98)))
                                    exact RRES_bad ⟨z188, rfl, by omega⟩ (h186.trans (congrArg some (by omega))) (rhp181.trans (congrArg some PL)))⟩)
                        · skip
                          refine Ev.step (j := 291) (s' := ([some (.ref 69), some (.int z83), some (.int z102), none], [.ref 69], (0, 0), hp94)) rfl rfl ?_
                          refine bs_lit (k := 1) rfl rfl fun z189 hz189 => ?_
                          refine Ev.inl (L := L_X11_bad) (nL := 2) rfl (bs_rcv (g := 11) Hhp94 (bs_R.uq Hhp94 (g := 11) rfl) (by decide) rfl) rfl (Nat.le_of_ble_eq_true rfl) ?_
                          generalize hQ190 : (fun (o : ab_O) => Ev _ _ _ _) = Q190
                          refine (show Ev (ab_T L_X11_bad) 0 ([some (.ref 69), some (.int z189)], [], (0, 0), hp94) Q190 from ?_)
                          refine Ev.step (j := 1) (s' := ([some (.ref 69), some (.int z189)], [.ref 69], (0, 0), hp94)) rfl rfl ?_
                          refine Ev.step (j := 2) (s' := ([some (.ref 69), some (.int z189)], [.int z189, .ref 69], (0, 0), hp94)) rfl rfl ?_
                          refine bs_putIv (W := [(11, 15, 15)]) (g := 11) rfl rfl Hhp94 (bs_R.uq Hhp94 (g := 11) rfl) (by decide) rfl rfl rfl rfl (Or.inl rfl) (by omega) (by omega) fun hp191 Hhp191 fhp191 rhp191 ehp191 qhp191 nhp191 => ?_
                          have Fhp191 := sf_fr_tr Fhp94 (sf_fr_wider (W := [(11, 4, 4), (11, 11, 18), (11, 20, 20), (133, 0, 119), (135, 0, 0), (137, 0, 3)]) rfl fhp191)
                          have h192 : sf_rd hp191 72 0 = some z92.toInt := (ehp191 _ _ (Or.inl (by decide))).trans h96
                          have h193 : sf_rd hp191 69 18 = some (fnd s.nm 0 (s.h 0) (tok B n lim (i + 1)).v) := (ehp191 _ _ (Or.inr (by omega))).trans Y3X98
                          have h194 : sf_rd hp191 69 11 = some z104.toInt := (ehp191 _ _ (Or.inr (by omega))).trans hz104
                          refine Ev.step (j := 6) (s' := ([some (.ref 69), some (.int z189)], [.ref 69], (0, 0), hp191)) rfl rfl ?_
                          refine Ev.step (j := 7) (s' := ([some (.ref 69), some (.int z189)], [.ref 69, .ref 69], (0, 0), hp191)) rfl rfl ?_
                          refine bs_getI 11 rfl rfl rfl Hhp191 (bs_R.uq Hhp191 (g := 11) rfl) (by decide) rfl fun z195 hz195 lz195 gz195 => ?_
                          refine bs_putIv (W := [(11, 16, 16)]) (g := 11) rfl rfl Hhp191 (bs_R.uq Hhp191 (g := 11) rfl) (by decide) rfl rfl rfl rfl (Or.inl rfl) (by omega) (by omega) fun hp196 Hhp196 fhp196 rhp196 ehp196 qhp196 nhp196 => ?_
                          have Fhp196 := sf_fr_tr Fhp191 (sf_fr_wider (W := [(11, 4, 4), (11, 11, 18), (11, 20, 20), (133, 0, 119), (135, 0, 0), (137, 0, 3)]) rfl fhp196)
                          have h197 : sf_rd hp196 72 0 = some z92.toInt := (ehp196 _ _ (Or.inl (by decide))).trans h192
                          have h198 : sf_rd hp196 69 18 = some (fnd s.nm 0 (s.h 0) (tok B n lim (i + 1)).v) := (ehp196 _ _ (Or.inr (by omega))).trans h193
                          have h199 : sf_rd hp196 69 11 = some z104.toInt := (ehp196 _ _ (Or.inr (by omega))).trans h194
                          have h200 : sf_rd hp196 69 15 = some z189.toInt := (ehp196 _ _ (Or.inr (by omega))).trans rhp191
                          have h201 : sf_rd hp196 69 12 = some z195.toInt := (ehp196 _ _ (Or.inr (by omega))).trans hz195
                          refine bs_lit (k := 0) rfl rfl fun z202 hz202 => ?_
                          refine bs_zret rfl rfl (by omega) (by omega) ?_
                          rw [← hQ190]
                          refine (show Ev _ 295 ([some (.ref 69), some (.int z83), some (.int z102), none], [.int z202], (0, 0), hp196) _ from ?_)
                          exact bs_zret rfl rfl (by omega) (by omega) (by rw [hQ]; exact ⟨thp94, Hhp196, Fhp196, bs_an0, sf_S_cons (sf_s1 (x := z202.toInt) rfl (by omega) (by omega)) (sf_S_nil), (fun _ => by
                                  skip
                                  rw [lnx_amt (by omega), show ((tok B n lim i).k - 66).toNat = 3 by omega]
                                  show RRES _ _ _ _ _ (lold (tok B n lim) s 0 (s.h 0) (i + 1) _)
                                  rw [lold_o Y1X98 (by omega)]
                                  have K3 : (tok B n lim (i + 2)).k ≠ 3 := fun e => by have KK := RK_k K2X98 hz104; rw [e] at KK; have KK2 : _ = (2 : Int) := KK; omega
                                  rw [lnum_1 K3]
                                  have PL : z195.toInt = (tok B n lim (i + 2)).pl := Option.some.inj (hz195.symm.trans (((ehp191 _ _ (Or.inr (by omega)))).trans (RK_pl K2X98)))
                                  exact RRES_bad ⟨z202, rfl, by omega⟩ (h200.trans (congrArg some (by omega))) (rhp196.trans (congrArg some PL)))⟩)
                      · skip
                        have c203 : z95.toInt = 0 := by omega
                        refine bs_lit (k := 0) rfl rfl fun z204 hz204 => ?_
                        exact bs_zret rfl rfl (by omega) (by omega) (by rw [hQ]; exact ⟨thp94, Hhp94, Fhp94, bs_an0, sf_S_cons (sf_s1 (x := z204.toInt) rfl (by omega) (by omega)) (sf_S_nil), (fun _ => by
                                skip
                                rw [lnx_amt (by omega), show ((tok B n lim i).k - 66).toNat = 3 by omega]
                                show RRES _ _ _ _ _ (lold (tok B n lim) s 0 (s.h 0) (i + 1) _)
                                rcases X98.resolve_left (fun h => absurd h.1 (by omega)) with ⟨Y0, P1, ⟨P2, P3⟩ | ⟨⟨P2, P4⟩, P3⟩⟩
                                · rw [lold_1 P2]
                                  exact RRES_bad ⟨z204, rfl, by omega⟩ P3 P1
                                · rw [lold_3 P2 (by omega)]
                                  exact RRES_bad ⟨z204, rfl, by omega⟩ P3 P1)⟩)
                    · exfalso; omega
                · skip
                  refine bs_lit (k := 2) rfl rfl fun z205 hz205 => ?_
                  refine Ev.step (j := 245) (s' := ([some (.ref 69), none, none, none], [.int z205], (0, 0), hp56)) rfl rfl ?_
                  refine Ev.step (j := 246) (s' := ([some (.ref 69), some (.int z205), none, none], [], (0, 0), hp56)) rfl rfl ?_
                  refine Ev.step (j := 247) (s' := ([some (.ref 69), some (.int z205), none, none], [.int z205], (0, 0), hp56)) rfl rfl ?_
                  refine bs_ifge rfl (fun c206 => ?_) (fun c206 => ?_)
                  · skip
                    refine Ev.step (j := 257) (s' := ([some (.ref 69), some (.int z205), none, none], [.ref 69], (0, 0), hp56)) rfl rfl ?_
                    refine bs_callx (K := kq_X11_next_v) [.ref 69] [] rfl ce_X11_next_v Hhp56 rfl rfl rfl (bs_rcv (g := 11) Hhp56 (bs_R.uq Hhp56 (g := 11) rfl) (by decide) rfl) rfl ?_ (sf_S_nil) fun r207 hp208 thp208 Hhp208 fhp208 ahp208 php208 xhp208 => ?_
                    · intro q k h
                      match q, h with
                      | 0, h => cases h; exact bs_jR (bs_R.uq Hhp56 (g := 11) rfl)
                      | q + 1, h => cases h
                    obtain rfl := ahp208.1 rfl
                    have Fhp208 := sf_fr_tr Fhp56 (sf_fr_wider (W := [(11, 4, 4), (11, 11, 18), (11, 20, 20), (133, 0, 119), (135, 0, 0), (137, 0, 3)]) rfl fhp208)
                    refine (show Ev _ 260 ([some (.ref 69), some (.int z205), none, none], [], (0, 0), hp208) _ from ?_)
                    have K209 := (RK_next Hhp56 fhp208 rfl rfl rfl xhp208 K59).1
                    have R210 := RES_fr Hhp56 fhp208 rfl R61
                    have S211 := SR_fr Hhp56 fhp208 rfl rfl rfl rfl S60
                    refine Ev.step (j := 261) (s' := ([some (.ref 69), some (.int z205), none, none], [.ref 69], (0, 0), hp208)) rfl rfl ?_
                    refine bs_lit (k := 14) rfl rfl fun z212 hz212 => ?_
                    refine Ev.step (j := 264) (s' := ([some (.ref 69), some (.int z205), none, none], [.ref 69, .int z212, .ref 69], (0, 0), hp208)) rfl rfl ?_
                    refine bs_getU (g := 11) (g1 := 133) rfl rfl Hhp208 (bs_R.uq Hhp208 (g := 11) rfl) (by decide) rfl rfl ?_
                    refine bs_lit (k := 0) rfl rfl fun z213 hz213 => ?_
                    refine bs_ld (g := 133) 0 0 (0, 6) rfl Hhp208 (bs_R.uq Hhp208 (g := 133) rfl) (by decide) rfl (by decide) (by decide) rfl (by decide) (by omega) (by omega) fun z214 hz214 lz214 gz214 => ?_
                    dsimp only at lz214 gz214
                    replace hz214 := bs_at hz214 (show z213.toInt.toNat = 0 by omega)
                    have c0_z214 : z214.toInt = s.h 0 := Option.some.inj (hz214.symm.trans (S211.1 0 (by decide)))
                    refine bs_callx (K := kq_X11_takesName_v) [.ref 69, .int z212, .int z214] [] rfl ce_X11_takesName_v Hhp208 rfl rfl rfl (bs_rcv (g := 11) Hhp208 (bs_R.uq Hhp208 (g := 11) rfl) (by decide) rfl) rfl ?_ (sf_S_cons (sf_s1 (x := z212.toInt) rfl (by omega) (by omega)) (sf_S_cons (sf_s1 (x := z214.toInt) rfl (by omega) (by omega)) (sf_S_nil))) fun r215 hp216 thp216 Hhp216 fhp216 ahp216 php216 xhp216 => ?_
                    · intro q k h
                      match q, h with
                      | 0, h => cases h; exact bs_jR (bs_R.uq Hhp208 (g := 11) rfl)
                      | 1, h => cases h; exact sf_j0
                      | 2, h => cases h; exact sf_j0
                      | q + 3, h => cases h
                    obtain ⟨z217, rfl⟩ := bs_anI ahp216
                    have rgz217 := n_range z217
                    have Fhp216 := sf_fr_tr Fhp208 (sf_fr_wider (W := [(11, 4, 4), (11, 11, 18), (11, 20, 20), (133, 0, 119), (135, 0, 0), (137, 0, 3)]) rfl fhp216)
                    have h218 : sf_rd hp216 72 0 = some z214.toInt := (fhp216.2.2.1 _ (bs_R.uq Hhp208 (g := 133) (p := 72) rfl).1 _ (by rw [(bs_R.uq Hhp208 (g := 133) (p := 72) rfl).2]; rfl)).trans hz214
                    obtain ⟨uz217, vz217⟩ := bs_s1 (x := z217.toInt) rfl (php216 _ (List.mem_of_getElem? (i := 0) rfl))
                    refine (show Ev _ 272 ([some (.ref 69), some (.int z205), none, none], [.int z217], (0, 0), hp216) _ from ?_)
                    obtain ⟨q219, rq219, X220⟩ := xhp216 _ _ s.nm 0 B n lim (i + 1) rfl (fun k hk => by rw [show z212.toInt.toNat + k = 14 + k by omega, Nat.zero_add]; exact S211.2.2.2.1 k (by omega)) R210 K209
                    obtain rfl := Value.int.inj (Option.some.inj rq219)
                    rw [show z214.toInt = s.h 0 by omega] at X220
                    have R221 := RES_fr Hhp208 fhp216 rfl R210
                    have S222 := SR_fr Hhp208 fhp216 rfl rfl rfl rfl S211
                    refine bs_ifne rfl (fun c223 => ?_) (fun c223 => ?_)
                    · skip
                      obtain ⟨Y0X220, Y1X220, Y2X220, Y3X220, Y4X220⟩ := X220.resolve_right (fun h => absurd h.1 (by omega))
                      have K2X220 : RK hp216 B n lim (i + 2) := Y4X220
                      have FBX220 : fnd s.nm 0 (s.h 0) (tok B n lim (i + 1)).v ≤ 5 := by have := fnd_lt (nm := s.nm) (o := 0) (n := s.h 0) (v := (tok B n lim (i + 1)).v); omega
                      refine Ev.step (j := 278) (s' := ([some (.ref 69), some (.int z205), none, none], [.ref 69], (0, 0), hp216)) rfl rfl ?_
                      refine bs_getI 11 rfl rfl rfl Hhp216 (bs_R.uq Hhp216 (g := 11) rfl) (by decide) rfl fun z224 hz224 lz224 gz224 => ?_
                      have e225 : z224.toInt = (fnd s.nm 0 (s.h 0) (tok B n lim (i + 1)).v) := Option.some.inj (hz224.symm.trans Y3X220)
                      refine Ev.step (j := 282) (s' := ([some (.ref 69), some (.int z205), some (.int z224), none], [], (0, 0), hp216)) rfl rfl ?_
                      refine Ev.step (j := 283) (s' := ([some (.ref 69), some (.int z205), some (.int z224), none], [.ref 69], (0, 0), hp216)) rfl rfl ?_
                      refine bs_getI 11 rfl rfl rfl Hhp216 (bs_R.uq Hhp216 (g := 11) rfl) (by decide) rfl fun z226 hz226 lz226 gz226 => ?_
                      refine bs_lit (k := 2) rfl rfl fun z227 hz227 => ?_
                      refine bs_eq rfl (fun c228 => ?_) (fun c228 => ?_)
                      · skip
                        have c229 : z226.toInt = 2 := by omega
                        refine Ev.step (j := 297) (s' := ([some (.ref 69), some (.int z205), some (.int z224), none], [.ref 69], (0, 0), hp216)) rfl rfl ?_
                        refine bs_getI 11 rfl rfl rfl Hhp216 (bs_R.uq Hhp216 (g := 11) rfl) (by decide) rfl fun z230 hz230 lz230 gz230 => ?_
                        refine bs_lit (k := 1) rfl rfl fun z231 hz231 => ?_
                        refine bs_le rfl (fun c232 => ?_) (fun c232 => ?_)
                        · skip
                          have KT : (tok B n lim (i + 2)).k = 3 := rkk_2 (by have KK := RK_k K2X220 hz226; omega)
                          have VT := RK_v K2X220 KT hz230
                          have NT_ := tok_nok B n lim (i + 2) KT
                          refine bs_lit (k := 2) rfl rfl fun z233 hz233 => ?_
                          refine Ev.step (j := 312) (s' := ([some (.ref 69), some (.int z205), some (.int z224), none], [.int z224, .int z233], (0, 0), hp216)) rfl rfl ?_
                          refine bs_mul (2) rfl (Or.inl hz233) (by rw [hz233]; omega) (by rw [hz233]; omega) fun z234 hz234 => ?_
                          rw [hz233] at hz234
                          refine Ev.step (j := 314) (s' := ([some (.ref 69), some (.int z205), some (.int z224), none], [.ref 69, .int z234], (0, 0), hp216)) rfl rfl ?_
                          refine bs_getI 11 rfl rfl rfl Hhp216 (bs_R.uq Hhp216 (g := 11) rfl) (by decide) rfl fun z235 hz235 lz235 gz235 => ?_
                          have e236 : z235.toInt = z230.toInt := Option.some.inj (hz235.symm.trans hz230)
                          first | (refine bs_add rfl (by omega) (by omega) fun z237 hz237 => ?_) | (refine bs_any rfl fun z237 => ?_)
                          have rz237 := n_range z237
                          refine Ev.step (j := 319) (s' := ([some (.ref 69), some (.int z205), some (.int z224), some (.int z237)], [], (0, 0), hp216)) rfl rfl ?_
                          refine Ev.step (j := 320) (s' := ([some (.ref 69), some (.int z205), some (.int z224), some (.int z237)], [.ref 69], (0, 0), hp216)) rfl rfl ?_
                          refine bs_getU (g := 11) (g1 := 137) rfl rfl Hhp216 (bs_R.uq Hhp216 (g := 11) rfl) (by decide) rfl rfl ?_
                          refine Ev.step (j := 324) (s' := ([some (.ref 69), some (.int z205), some (.int z224), some (.int z237)], [.int z205, .ref 76], (0, 0), hp216)) rfl rfl ?_
                          refine bs_ld (g := 137) 0 3 (-2147483648, 2147483647) rfl Hhp216 (bs_R.uq Hhp216 (g := 137) rfl) (by decide) rfl (by decide) (by decide) rfl (by decide) (by omega) (by omega) fun z238 hz238 lz238 gz238 => ?_
                          dsimp only at lz238 gz238
                          replace hz238 := bs_at hz238 (show z205.toInt.toNat = 2 by omega)
                          refine Ev.step (j := 326) (s' := ([some (.ref 69), some (.int z205), some (.int z224), some (.int z237)], [.int z237, .int z238], (0, 0), hp216)) rfl rfl ?_
                          refine bs_pure [.int z238, .int z237] [] rfl rfl rfl rfl (px_X11_bitOf (by omega) (by omega)) fun z239 hz239 => ?_
                          refine (show Ev _ 329 ([some (.ref 69), some (.int z205), some (.int z224), some (.int z237)], [.int z239], (0, 0), hp216) _ from ?_)
                          rcases hz239 with ⟨ez239, tz239⟩ | ⟨ez239, tz239⟩
                          · skip
                            refine bs_ifeq rfl (fun c240 => ?_) (fun c240 => ?_)
                            · exfalso; omega
                            · skip
                              refine Ev.step (j := 333) (s' := ([some (.ref 69), some (.int z205), some (.int z224), some (.int z237)], [.ref 69], (0, 0), hp216)) rfl rfl ?_
                              refine bs_lit (k := 3) rfl rfl fun z241 hz241 => ?_
                              refine Ev.inl (L := L_X11_bad) (nL := 2) rfl (bs_rcv (g := 11) Hhp216 (bs_R.uq Hhp216 (g := 11) rfl) (by decide) rfl) rfl (Nat.le_of_ble_eq_true rfl) ?_
                              generalize hQ242 : (fun (o : ab_O) => Ev _ _ _ _) = Q242
                              refine (show Ev (ab_T L_X11_bad) 0 ([some (.ref 69), some (.int z241)], [], (0, 0), hp216) Q242 from ?_)
                              refine Ev.step (j := 1) (s' := ([some (.ref 69), some (.int z241)], [.ref 69], (0, 0), hp216)) rfl rfl ?_
                              refine Ev.step (j := 2) (s' := ([some (.ref 69), some (.int z241)], [.int z241, .ref 69], (0, 0), hp216)) rfl rfl ?_
                              refine bs_putIv (W := [(11, 15, 15)]) (g := 11) rfl rfl Hhp216 (bs_R.uq Hhp216 (g := 11) rfl) (by decide) rfl rfl rfl rfl (Or.inl rfl) (by omega) (by omega) fun hp243 Hhp243 fhp243 rhp243 ehp243 qhp243 nhp243 => ?_
                              have Fhp243 := sf_fr_tr Fhp216 (sf_fr_wider (W := [(11, 4, 4), (11, 11, 18), (11, 20, 20), (133, 0, 119), (135, 0, 0), (137, 0, 3)]) rfl fhp243)
                              have h244 : sf_rd hp243 72 0 = some z214.toInt := (ehp243 _ _ (Or.inl (by decide))).trans h218
                              have h245 : sf_rd hp243 69 18 = some (fnd s.nm 0 (s.h 0) (tok B n lim (i + 1)).v) := (ehp243 _ _ (Or.inr (by omega))).trans Y3X220
                              have h246 : sf_rd hp243 69 11 = some z226.toInt := (ehp243 _ _ (Or.inr (by omega))).trans hz226
                              have h247 : sf_rd hp243 69 14 = some z230.toInt := (ehp243 _ _ (Or.inr (by omega))).trans hz230
                              have h248 : sf_rd hp243 76 2 = some z238.toInt := (ehp243 _ _ (Or.inl (by decide))).trans hz238
                              refine Ev.step (j := 6) (s' := ([some (.ref 69), some (.int z241)], [.ref 69], (0, 0), hp243)) rfl rfl ?_
                              refine Ev.step (j := 7) (s' := ([some (.ref 69), some (.int z241)], [.ref 69, .ref 69], (0, 0), hp243)) rfl rfl ?_
                              refine bs_getI 11 rfl rfl rfl Hhp243 (bs_R.uq Hhp243 (g := 11) rfl) (by decide) rfl fun z249 hz249 lz249 gz249 => ?_
                              refine bs_putIv (W := [(11, 16, 16)]) (g := 11) rfl rfl Hhp243 (bs_R.uq Hhp243 (g := 11) rfl) (by decide) rfl rfl rfl rfl (Or.inl rfl) (by omega) (by omega) fun hp250 Hhp250 fhp250 rhp250 ehp250 qhp250 nhp250 => ?_
                              have Fhp250 := sf_fr_tr Fhp243 (sf_fr_wider (W := [(11, 4, 4), (11, 11, 18), (11, 20, 20), (133, 0, 119), (135, 0, 0), (137, 0, 3)]) rfl fhp250)
                              have h251 : sf_rd hp250 72 0 = some z214.toInt := (ehp250 _ _ (Or.inl (by decide))).trans h244
                              have h252 : sf_rd hp250 69 18 = some (fnd s.nm 0 (s.h 0) (tok B n lim (i + 1)).v) := (ehp250 _ _ (Or.inr (by omega))).trans h245
                              have h253 : sf_rd hp250 69 11 = some z226.toInt := (ehp250 _ _ (Or.inr (by omega))).trans h246
                              have h254 : sf_rd hp250 69 14 = some z230.toInt := (ehp250 _ _ (Or.inr (by omega))).trans h247
                              have h255 : sf_rd hp250 76 2 = some z238.toInt := (ehp250 _ _ (Or.inl (by decide))).trans h248
                              have h256 : sf_rd hp250 69 15 = some z241.toInt := (ehp250 _ _ (Or.inr (by omega))).trans rhp243
                              have h257 : sf_rd hp250 69 12 = some z249.toInt := (ehp250 _ _ (Or.inr (by omega))).trans hz249
                              refine bs_lit (k := 0) rfl rfl fun z258 hz258 => ?_
                              refine bs_zret rfl rfl (by omega) (by omega) ?_
                              rw [← hQ242]
                              refine (show Ev _ 337 ([some (.ref 69), some (.int z205), some (.int z224), some (.int z237)], [.int z258], (0, 0), hp250) _ from ?_)
                              exact bs_zret rfl rfl (by omega) (by omega) (by rw [hQ]; exact ⟨thp216, Hhp250, Fhp250, bs_an0, sf_S_cons (sf_s1 (x := z258.toInt) rfl (by omega) (by omega)) (sf_S_nil), (fun _ => by
                                      skip
                                      rw [lnx_amt (by omega), show ((tok B n lim i).k - 66).toNat = 2 by omega]
                                      show RRES _ _ _ _ _ (lold (tok B n lim) s 0 (s.h 0) (i + 1) _)
                                      rw [lold_o Y1X220 (by omega)]
                                      have K3 : (tok B n lim (i + 2)).k = 3 := rkk_2 (by have KK := RK_k K2X220 hz226; omega)
                                      have VV := RK_v K2X220 K3 hz230
                                      have N9 := tok_nok B n lim (i + 2) K3
                                      rw [lnum_o K3 (by omega) (by omega)]
                                      have EK : (2 * fnd s.nm 0 (s.h 0) (tok B n lim (i + 1)).v + (tok B n lim (i + 2)).v).toNat = z237.toInt.toNat := by omega
                                      rw [EK]
                                      obtain ⟨A9, hA9, hB9⟩ := S222.2.2.1 2 (by decide)
                                      have EA : z238.toInt = A9 := Option.some.inj (hz238.symm.trans hA9)
                                      have TB9 := hB9 z237.toInt.toNat (by omega)
                                      rw [← EA, tz239] at TB9
                                      rw [if_pos TB9.symm]
                                      have PL : z249.toInt = (tok B n lim (i + 2)).pl := Option.some.inj (hz249.symm.trans (((ehp243 _ _ (Or.inr (by omega)))).trans (RK_pl K2X220)))
                                      exact RRES_bad ⟨z258, rfl, by omega⟩ (h256.trans (congrArg some (by omega))) (rhp250.trans (congrArg some PL)))⟩)
                          · skip
                            refine bs_ifeq rfl (fun c259 => ?_) (fun c259 => ?_)
                            · skip
                              refine Ev.step (j := 339) (s' := ([some (.ref 69), some (.int z205), some (.int z224), some (.int z237)], [.ref 69], (0, 0), hp216)) rfl rfl ?_
                              refine bs_getU (g := 11) (g1 := 137) rfl rfl Hhp216 (bs_R.uq Hhp216 (g := 11) rfl) (by decide) rfl rfl ?_
                              refine Ev.step (j := 343) (s' := ([some (.ref 69), some (.int z205), some (.int z224), some (.int z237)], [.int z205, .ref 76], (0, 0), hp216)) rfl rfl ?_
                              refine Ev.step (j := 344) (s' := ([some (.ref 69), some (.int z205), some (.int z224), some (.int z237)], [.int z205, .ref 76, .int z205, .ref 76], (0, 0), hp216)) rfl rfl ?_
                              refine bs_ld (g := 137) 0 3 (-2147483648, 2147483647) rfl Hhp216 (bs_R.uq Hhp216 (g := 137) rfl) (by decide) rfl (by decide) (by decide) rfl (by decide) (by omega) (by omega) fun z260 hz260 lz260 gz260 => ?_
                              dsimp only at lz260 gz260
                              replace hz260 := bs_at hz260 (show z205.toInt.toNat = 2 by omega)
                              have e261 : z260.toInt = z238.toInt := Option.some.inj (hz260.symm.trans hz238)
                              refine bs_lit (k := 1) rfl rfl fun z262 hz262 => ?_
                              refine Ev.step (j := 347) (s' := ([some (.ref 69), some (.int z205), some (.int z224), some (.int z237)], [.int z237, .int z262, .int z260, .int z205, .ref 76], (0, 0), hp216)) rfl rfl ?_
                              refine Ev.step (j := 348) (s' := ([some (.ref 69), some (.int z205), some (.int z224), some (.int z237)], [.int (z262 <<< (z237 &&& 31)), .int z260, .int z205, .ref 76], (0, 0), hp216)) rfl rfl ?_
                              have rz263 := n_range (z262 <<< (z237 &&& 31))
                              refine Ev.step (j := 349) (s' := ([some (.ref 69), some (.int z205), some (.int z224), some (.int z237)], [.int (z260 ||| (z262 <<< (z237 &&& 31))), .int z205, .ref 76], (0, 0), hp216)) rfl rfl ?_
                              have rz264 := n_range (z260 ||| (z262 <<< (z237 &&& 31)))
                              refine bs_stv (W := [(137, 0, 3)]) (g := 137) 0 3 (-2147483648, 2147483647) rfl Hhp216 (bs_R.uq Hhp216 (g := 137) rfl) (by decide) rfl rfl (by decide) rfl rfl (by omega) (by omega) (by dsimp only; omega) (by dsimp only; omega) fun hp265 Hhp265 fhp265 rhp265 ehp265 qhp265 nhp265 => ?_
                              replace rhp265 := bs_at rhp265 (show z205.toInt.toNat = 2 by omega)
                              have Fhp265 := sf_fr_tr Fhp216 (sf_fr_wider (W := [(11, 4, 4), (11, 11, 18), (11, 20, 20), (133, 0, 119), (135, 0, 0), (137, 0, 3)]) rfl fhp265)
                              have h266 : sf_rd hp265 72 0 = some z214.toInt := (ehp265 _ _ (Or.inl (by decide))).trans h218
                              have h267 : sf_rd hp265 69 18 = some (fnd s.nm 0 (s.h 0) (tok B n lim (i + 1)).v) := (ehp265 _ _ (Or.inl (by decide))).trans Y3X220
                              have h268 : sf_rd hp265 69 11 = some z226.toInt := (ehp265 _ _ (Or.inl (by decide))).trans hz226
                              have h269 : sf_rd hp265 69 14 = some z230.toInt := (ehp265 _ _ (Or.inl (by decide))).trans hz230
                              have K270 := RK_keep Hhp216 fhp265 rfl rfl (nhp265 _ _) K2X220
                              have R271 := RES_fr Hhp216 fhp265 rfl R221
                              refine Ev.step (j := 351) (s' := ([some (.ref 69), some (.int z205), some (.int z224), some (.int z237)], [.ref 69], (0, 0), hp265)) rfl rfl ?_
                              refine bs_callx (K := kq_X11_next_v) [.ref 69] [] rfl ce_X11_next_v Hhp265 rfl rfl rfl (bs_rcv (g := 11) Hhp265 (bs_R.uq Hhp265 (g := 11) rfl) (by decide) rfl) rfl ?_ (sf_S_nil) fun r272 hp273 thp273 Hhp273 fhp273 ahp273 php273 xhp273 => ?_
                              · intro q k h
                                match q, h with
                                | 0, h => cases h; exact bs_jR (bs_R.uq Hhp265 (g := 11) rfl)
                                | q + 1, h => cases h
                              obtain rfl := ahp273.1 rfl
                              have Fhp273 := sf_fr_tr Fhp265 (sf_fr_wider (W := [(11, 4, 4), (11, 11, 18), (11, 20, 20), (133, 0, 119), (135, 0, 0), (137, 0, 3)]) rfl fhp273)
                              have h274 : sf_rd hp273 72 0 = some z214.toInt := (fhp273.2.2.1 _ (bs_R.uq Hhp265 (g := 133) (p := 72) rfl).1 _ (by rw [(bs_R.uq Hhp265 (g := 133) (p := 72) rfl).2]; rfl)).trans h266
                              have h275 : sf_rd hp273 69 18 = some (fnd s.nm 0 (s.h 0) (tok B n lim (i + 1)).v) := (fhp273.2.2.1 _ (bs_R.uq Hhp265 (g := 11) (p := 69) rfl).1 _ (by rw [(bs_R.uq Hhp265 (g := 11) (p := 69) rfl).2]; rfl)).trans h267
                              have h276 : sf_rd hp273 76 2 = some (z260 ||| (z262 <<< (z237 &&& 31))).toInt := (fhp273.2.2.1 _ (bs_R.uq Hhp265 (g := 137) (p := 76) rfl).1 _ (by rw [(bs_R.uq Hhp265 (g := 137) (p := 76) rfl).2]; rfl)).trans rhp265
                              refine (show Ev _ 354 ([some (.ref 69), some (.int z205), some (.int z224), some (.int z237)], [], (0, 0), hp273) _ from ?_)
                              have K277 := (RK_next Hhp265 fhp273 rfl rfl rfl xhp273 K270).1
                              have R278 := RES_fr Hhp265 fhp273 rfl R271
                              refine Ev.step (j := 355) (s' := ([some (.ref 69), some (.int z205), some (.int z224), some (.int z237)], [.ref 69], (0, 0), hp273)) rfl rfl ?_
                              refine bs_lit (k := 4) rfl rfl fun z279 hz279 => ?_
                              refine bs_lit (k := 12) rfl rfl fun z280 hz280 => ?_
                              refine Ev.step (j := 359) (s' := ([some (.ref 69), some (.int z205), some (.int z224), some (.int z237)], [.int z205, .int z280, .int z279, .ref 69], (0, 0), hp273)) rfl rfl ?_
                              refine bs_mul (2) rfl (Or.inr hz205) (by rw [hz205]; omega) (by rw [hz205]; omega) fun z281 hz281 => ?_
                              rw [hz205] at hz281
                              first | (refine bs_add rfl (by omega) (by omega) fun z282 hz282 => ?_) | (refine bs_any rfl fun z282 => ?_)
                              have rz282 := n_range z282
                              refine Ev.step (j := 362) (s' := ([some (.ref 69), some (.int z205), some (.int z224), some (.int z237)], [.int z237, .int z282, .ref 69], (0, 0), hp273)) rfl rfl ?_
                              first | (refine bs_add rfl (by omega) (by omega) fun z283 hz283 => ?_) | (refine bs_any rfl fun z283 => ?_)
                              have rz283 := n_range z283
                              refine bs_lit (k := 0) rfl rfl fun z284 hz284 => ?_
                              refine Ev.step (j := 365) (s' := ([some (.ref 69), some (.int z205), some (.int z224), some (.int z237)], [.int z205, .int z284, .int z283, .ref 69], (0, 0), hp273)) rfl rfl ?_
                              refine bs_lit (k := 2) rfl rfl fun z285 hz285 => ?_
                              refine bs_ge rfl (fun c286 => ?_) (fun c286 => ?_)
                              · skip
                                refine bs_lit (k := 20) rfl rfl fun z287 hz287 => ?_
                                refine bs_callx (K := kq_X11_puts_v2) [.ref 69, .int z283, .int z284, .int z287] [] rfl ce_X11_puts_v2 Hhp273 rfl rfl rfl (bs_rcv (g := 11) Hhp273 (bs_R.uq Hhp273 (g := 11) rfl) (by decide) rfl) rfl ?_ (sf_S_cons (sf_s1 (x := z283.toInt) rfl (by omega) (by omega)) (sf_S_cons (sf_s1 (x := z284.toInt) rfl (by omega) (by omega)) (sf_S_cons (sf_s1 (x := z287.toInt) rfl (by omega) (by omega)) (sf_S_nil)))) fun r288 hp289 thp289 Hhp289 fhp289 ahp289 php289 xhp289 => ?_
                                · intro q k h
                                  match q, h with
                                  | 0, h => cases h; exact bs_jR (bs_R.uq Hhp273 (g := 11) rfl)
                                  | 1, h => cases h; exact sf_j0
                                  | 2, h => cases h; exact sf_j0
                                  | 3, h => cases h; exact sf_j0
                                  | q + 4, h => cases h
                                obtain ⟨z290, rfl⟩ := bs_anI ahp289
                                have rgz290 := n_range z290
                                have Fhp289 := sf_fr_tr Fhp273 (sf_fr_wider (W := [(11, 4, 4), (11, 11, 18), (11, 20, 20), (133, 0, 119), (135, 0, 0), (137, 0, 3)]) rfl fhp289)
                                have h291 : sf_rd hp289 72 0 = some z214.toInt := (fhp289.2.2.1 _ (bs_R.uq Hhp273 (g := 133) (p := 72) rfl).1 _ (by rw [(bs_R.uq Hhp273 (g := 133) (p := 72) rfl).2]; rfl)).trans h274
                                have h292 : sf_rd hp289 76 2 = some (z260 ||| (z262 <<< (z237 &&& 31))).toInt := (fhp289.2.2.1 _ (bs_R.uq Hhp273 (g := 137) (p := 76) rfl).1 _ (by rw [(bs_R.uq Hhp273 (g := 137) (p := 76) rfl).2]; rfl)).trans h276
                                obtain ⟨uz290, vz290⟩ := bs_s1 (x := z290.toInt) rfl (php289 _ (List.mem_of_getElem? (i := 0) rfl))
                                refine (show Ev _ 380 ([some (.ref 69), some (.int z205), some (.int z224), some (.int z237)], [.int z290], (0, 0), hp289) _ from ?_)
                                obtain ⟨q293, rq293, X294⟩ := xhp289 _ _ _ B n lim (i + 3) rfl K277
                                obtain rfl := Value.int.inj (Option.some.inj rq293)
                                exact bs_zret rfl rfl (by omega) (by omega) (by rw [hQ]; exact ⟨thp289, Hhp289, Fhp289, bs_an0, sf_S_cons (sf_s1 (x := z290.toInt) rfl (by omega) (by omega)) (sf_S_nil), (fun _ => by
                                        skip
                                        rw [lnx_amt (by omega), show ((tok B n lim i).k - 66).toNat = 2 by omega]
                                        show RRES _ _ _ _ _ (lold (tok B n lim) s 0 (s.h 0) (i + 1) _)
                                        rw [lold_o Y1X220 (by omega)]
                                        have K3 : (tok B n lim (i + 2)).k = 3 := rkk_2 (by have KK := RK_k K2X220 hz226; omega)
                                        have VV := RK_v K2X220 K3 hz230
                                        have N9 := tok_nok B n lim (i + 2) K3
                                        rw [lnum_o K3 (by omega) (by omega)]
                                        have EK : (2 * fnd s.nm 0 (s.h 0) (tok B n lim (i + 1)).v + (tok B n lim (i + 2)).v).toNat = z237.toInt.toNat := by omega
                                        rw [EK]
                                        obtain ⟨A9, hA9, hB9⟩ := S222.2.2.1 2 (by decide)
                                        have EA : z238.toInt = A9 := Option.some.inj (hz238.symm.trans hA9)
                                        have TB9 := hB9 z237.toInt.toNat (by omega)
                                        rw [← EA, tz239] at TB9
                                        rw [if_neg (by rw [← TB9]; decide)]
                                        rw [show (if (2 : Nat) = 2 ∨ (2 : Nat) = 3 then (20 : Int) else 250) = 20 from if_pos (by decide)]
                                        rcases X294 with ⟨Y0, Y1, Y2, Y3, Y4, Y5, Y6⟩ | ⟨Y0, P1, ⟨P2, P3⟩ | ⟨⟨P2, P4⟩, P3⟩⟩
                                        · rw [lnum_o Y1 (by omega) (by omega)]
                                          have EP : z283.toInt.toNat = 4 + (12 * 2 + z237.toInt.toNat) := by omega
                                          rw [EP] at Y4 Y5
                                          exact RRES_ok ⟨z290, rfl, by omega⟩ (SR_amt S222 (by decide) (by omega) Y4 (fun q hq => (Y5 q hq).trans (((fhp273.2.2.1 _ (bs_R.uq Hhp265 (g := 133) (p := 72) rfl).1 _ (by rw [(bs_R.uq Hhp265 (g := 133) (p := 72) rfl).2]; rfl)).trans (ehp265 _ _ (Or.inl (by decide)))))) (((fhp289.2.2.1 _ (bs_R.uq Hhp273 (g := 11) (p := 69) rfl).1 _ (by rw [(bs_R.uq Hhp273 (g := 11) (p := 69) rfl).2]; rfl)).trans ((fhp273.2.2.1 _ (bs_R.uq Hhp265 (g := 11) (p := 69) rfl).1 _ (by rw [(bs_R.uq Hhp265 (g := 11) (p := 69) rfl).2]; rfl)).trans (ehp265 _ _ (Or.inl (by decide)))))) (((fhp289.2.2.2.1 _ (bs_R.uq Hhp273 (g := 135) (p := 74) rfl).1 (by rw [(bs_R.uq Hhp273 (g := 135) (p := 74) rfl).2]; rfl)).trans ((fhp273.2.2.2.1 _ (bs_R.uq Hhp265 (g := 135) (p := 74) rfl).1 (by rw [(bs_R.uq Hhp265 (g := 135) (p := 74) rfl).2]; rfl)).trans (fhp265.2.2.2.1 _ (bs_R.uq Hhp216 (g := 135) rfl).1 (by rw [(bs_R.uq Hhp216 (g := 135) rfl).2]; rfl))))) (bs_at h292 (by omega)) (fun A0 hA0 j hj => by rw [show A0 = z260.toInt from (Option.some.inj (hA0.symm.trans hz238)).trans (by omega)]; exact ib_or (by omega) (by omega) (by omega) hj) (fun q hq => ((fhp289.2.2.1 _ (bs_R.uq Hhp273 (g := 137) (p := 76) rfl).1 _ (by rw [(bs_R.uq Hhp273 (g := 137) (p := 76) rfl).2]; rfl)).trans ((fhp273.2.2.1 _ (bs_R.uq Hhp265 (g := 137) (p := 76) rfl).1 _ (by rw [(bs_R.uq Hhp265 (g := 137) (p := 76) rfl).2]; rfl)).trans (ehp265 _ _ (Or.inr (by omega))))))) Y6
                                        · rw [lnum_1 P2]
                                          exact RRES_bad ⟨z290, rfl, by omega⟩ P3 P1
                                        · rw [lnum_2 P2 (by omega)]
                                          exact RRES_bad ⟨z290, rfl, by omega⟩ P3 P1)⟩)
                              · exfalso; omega
                            · exfalso; omega
                        · skip
                          refine Ev.step (j := 305) (s' := ([some (.ref 69), some (.int z205), some (.int z224), none], [.ref 69], (0, 0), hp216)) rfl rfl ?_
                          refine bs_lit (k := 2) rfl rfl fun z295 hz295 => ?_
                          refine Ev.inl (L := L_X11_bad) (nL := 2) rfl (bs_rcv (g := 11) Hhp216 (bs_R.uq Hhp216 (g := 11) rfl) (by decide) rfl) rfl (Nat.le_of_ble_eq_true rfl) ?_
                          generalize hQ296 : (fun (o : ab_O) => Ev _ _ _ _) = Q296
                          refine (show Ev (ab_T L_X11_bad) 0 ([some (.ref 69), some (.int z295)], [], (0, 0), hp216) Q296 from ?_)
                          refine Ev.step (j := 1) (s' := ([some (.ref 69), some (.int z295)], [.ref 69], (0, 0), hp216)) rfl rfl ?_
                          refine Ev.step (j := 2) (s' := ([some (.ref 69), some (.int z295)], [.int z295, .ref 69], (0, 0), hp216)) rfl rfl ?_
                          refine bs_putIv (W := [(11, 15, 15)]) (g := 11) rfl rfl Hhp216 (bs_R.uq Hhp216 (g := 11) rfl) (by decide) rfl rfl rfl rfl (Or.inl rfl) (by omega) (by omega) fun hp297 Hhp297 fhp297 rhp297 ehp297 qhp297 nhp297 => ?_
                          have Fhp297 := sf_fr_tr Fhp216 (sf_fr_wider (W := [(11, 4, 4), (11, 11, 18), (11, 20, 20), (133, 0, 119), (135, 0, 0), (137, 0, 3)]) rfl fhp297)
                          have h298 : sf_rd hp297 72 0 = some z214.toInt := (ehp297 _ _ (Or.inl (by decide))).trans h218
                          have h299 : sf_rd hp297 69 18 = some (fnd s.nm 0 (s.h 0) (tok B n lim (i + 1)).v) := (ehp297 _ _ (Or.inr (by omega))).trans Y3X220
                          have h300 : sf_rd hp297 69 11 = some z226.toInt := (ehp297 _ _ (Or.inr (by omega))).trans hz226
                          have h301 : sf_rd hp297 69 14 = some z230.toInt := (ehp297 _ _ (Or.inr (by omega))).trans hz230
                          refine Ev.step (j := 6) (s' := ([some (.ref 69), some (.int z295)], [.ref 69], (0, 0), hp297)) rfl rfl ?_
                          refine Ev.step (j := 7) (s' := ([some (.ref 69), some (.int z295)], [.ref 69, .ref 69], (0, 0), hp297)) rfl rfl ?_
                          refine bs_getI 11 rfl rfl rfl Hhp297 (bs_R.uq Hhp297 (g := 11) rfl) (by decide) rfl fun z302 hz302 lz302 gz302 => ?_
                          refine bs_putIv (W := [(11, 16, 16)]) (g := 11) rfl rfl Hhp297 (bs_R.uq Hhp297 (g := 11) rfl) (by decide) rfl rfl rfl rfl (Or.inl rfl) (by omega) (by omega) fun hp303 Hhp303 fhp303 rhp303 ehp303 qhp303 nhp303 => ?_
                          have Fhp303 := sf_fr_tr Fhp297 (sf_fr_wider (W := [(11, 4, 4), (11, 11, 18), (11, 20, 20), (133, 0, 119), (135, 0, 0), (137, 0, 3)]) rfl fhp303)
                          have h304 : sf_rd hp303 72 0 = some z214.toInt := (ehp303 _ _ (Or.inl (by decide))).trans h298
                          have h305 : sf_rd hp303 69 18 = some (fnd s.nm 0 (s.h 0) (tok B n lim (i + 1)).v) := (ehp303 _ _ (Or.inr (by omega))).trans h299
                          have h306 : sf_rd hp303 69 11 = some z226.toInt := (ehp303 _ _ (Or.inr (by omega))).trans h300
                          have h307 : sf_rd hp303 69 14 = some z230.toInt := (ehp303 _ _ (Or.inr (by omega))).trans h301
                          have h308 : sf_rd hp303 69 15 = some z295.toInt := (ehp303 _ _ (Or.inr (by omega))).trans rhp297
                          have h309 : sf_rd hp303 69 12 = some z302.toInt := (ehp303 _ _ (Or.inr (by omega))).trans hz302
                          refine bs_lit (k := 0) rfl rfl fun z310 hz310 => ?_
                          refine bs_zret rfl rfl (by omega) (by omega) ?_
                          rw [← hQ296]
                          refine (show Ev _ 309 ([some (.ref 69), some (.int z205), some (.int z224), none], [.int z310], (0, 0), hp303) _ from ?_)
                          exact bs_zret rfl rfl (by omega) (by omega) (by rw [hQ]; exact ⟨thp216, Hhp303, Fhp303, bs_an0, sf_S_cons (sf_s1 (x := z310.toInt) rfl (by omega) (by omega)) (sf_S_nil), (fun _ => by
                                  skip
                                  rw [lnx_amt (by omega), show ((tok B n lim i).k - 66).toNat = 2 by omega]
                                  show RRES _ _ _ _ _ (lold (tok B n lim) s 0 (s.h 0) (i + 1) _)
                                  rw [lold_o Y1X220 (by omega)]
                                  have K3 : (tok B n lim (i + 2)).k = 3 := rkk_2 (by have KK := RK_k K2X220 hz226; omega)
                                  have VV := RK_v K2X220 K3 hz230
                                  have N9 := tok_nok B n lim (i + 2) K3
                                  rw [lnum_2 K3 (by omega)]
                                  have PL : z302.toInt = (tok B n lim (i + 2)).pl := Option.some.inj (hz302.symm.trans (((ehp297 _ _ (Or.inr (by omega)))).trans (RK_pl K2X220)))
                                  exact RRES_bad ⟨z310, rfl, by omega⟩ (h308.trans (congrArg some (by omega))) (rhp303.trans (congrArg some PL)))⟩)
                      · skip
                        refine Ev.step (j := 291) (s' := ([some (.ref 69), some (.int z205), some (.int z224), none], [.ref 69], (0, 0), hp216)) rfl rfl ?_
                        refine bs_lit (k := 1) rfl rfl fun z311 hz311 => ?_
                        refine Ev.inl (L := L_X11_bad) (nL := 2) rfl (bs_rcv (g := 11) Hhp216 (bs_R.uq Hhp216 (g := 11) rfl) (by decide) rfl) rfl (Nat.le_of_ble_eq_true rfl) ?_
                        generalize hQ312 : (fun (o : ab_O) => Ev _ _ _ _) = Q312
                        refine (show Ev (ab_T L_X11_bad) 0 ([some (.ref 69), some (.int z311)], [], (0, 0), hp216) Q312 from ?_)
                        refine Ev.step (j := 1) (s' := ([some (.ref 69), some (.int z311)], [.ref 69], (0, 0), hp216)) rfl rfl ?_
                        refine Ev.step (j := 2) (s' := ([some (.ref 69), some (.int z311)], [.int z311, .ref 69], (0, 0), hp216)) rfl rfl ?_
                        refine bs_putIv (W := [(11, 15, 15)]) (g := 11) rfl rfl Hhp216 (bs_R.uq Hhp216 (g := 11) rfl) (by decide) rfl rfl rfl rfl (Or.inl rfl) (by omega) (by omega) fun hp313 Hhp313 fhp313 rhp313 ehp313 qhp313 nhp313 => ?_
                        have Fhp313 := sf_fr_tr Fhp216 (sf_fr_wider (W := [(11, 4, 4), (11, 11, 18), (11, 20, 20), (133, 0, 119), (135, 0, 0), (137, 0, 3)]) rfl fhp313)
                        have h314 : sf_rd hp313 72 0 = some z214.toInt := (ehp313 _ _ (Or.inl (by decide))).trans h218
                        have h315 : sf_rd hp313 69 18 = some (fnd s.nm 0 (s.h 0) (tok B n lim (i + 1)).v) := (ehp313 _ _ (Or.inr (by omega))).trans Y3X220
                        have h316 : sf_rd hp313 69 11 = some z226.toInt := (ehp313 _ _ (Or.inr (by omega))).trans hz226
                        refine Ev.step (j := 6) (s' := ([some (.ref 69), some (.int z311)], [.ref 69], (0, 0), hp313)) rfl rfl ?_
                        refine Ev.step (j := 7) (s' := ([some (.ref 69), some (.int z311)], [.ref 69, .ref 69], (0, 0), hp313)) rfl rfl ?_
                        refine bs_getI 11 rfl rfl rfl Hhp313 (bs_R.uq Hhp313 (g := 11) rfl) (by decide) rfl fun z317 hz317 lz317 gz317 => ?_
                        refine bs_putIv (W := [(11, 16, 16)]) (g := 11) rfl rfl Hhp313 (bs_R.uq Hhp313 (g := 11) rfl) (by decide) rfl rfl rfl rfl (Or.inl rfl) (by omega) (by omega) fun hp318 Hhp318 fhp318 rhp318 ehp318 qhp318 nhp318 => ?_
                        have Fhp318 := sf_fr_tr Fhp313 (sf_fr_wider (W := [(11, 4, 4), (11, 11, 18), (11, 20, 20), (133, 0, 119), (135, 0, 0), (137, 0, 3)]) rfl fhp318)
                        have h319 : sf_rd hp318 72 0 = some z214.toInt := (ehp318 _ _ (Or.inl (by decide))).trans h314
                        have h320 : sf_rd hp318 69 18 = some (fnd s.nm 0 (s.h 0) (tok B n lim (i + 1)).v) := (ehp318 _ _ (Or.inr (by omega))).trans h315
                        have h321 : sf_rd hp318 69 11 = some z226.toInt := (ehp318 _ _ (Or.inr (by omega))).trans h316
                        have h322 : sf_rd hp318 69 15 = some z311.toInt := (ehp318 _ _ (Or.inr (by omega))).trans rhp313
                        have h323 : sf_rd hp318 69 12 = some z317.toInt := (ehp318 _ _ (Or.inr (by omega))).trans hz317
                        refine bs_lit (k := 0) rfl rfl fun z324 hz324 => ?_
                        refine bs_zret rfl rfl (by omega) (by omega) ?_
                        rw [← hQ312]
                        refine (show Ev _ 295 ([some (.ref 69), some (.int z205), some (.int z224), none], [.int z324], (0, 0), hp318) _ from ?_)
                        exact bs_zret rfl rfl (by omega) (by omega) (by rw [hQ]; exact ⟨thp216, Hhp318, Fhp318, bs_an0, sf_S_cons (sf_s1 (x := z324.toInt) rfl (by omega) (by omega)) (sf_S_nil), (fun _ => by
                                skip
                                rw [lnx_amt (by omega), show ((tok B n lim i).k - 66).toNat = 2 by omega]
                                show RRES _ _ _ _ _ (lold (tok B n lim) s 0 (s.h 0) (i + 1) _)
                                rw [lold_o Y1X220 (by omega)]
                                have K3 : (tok B n lim (i + 2)).k ≠ 3 := fun e => by have KK := RK_k K2X220 hz226; rw [e] at KK; have KK2 : _ = (2 : Int) := KK; omega
                                rw [lnum_1 K3]
                                have PL : z317.toInt = (tok B n lim (i + 2)).pl := Option.some.inj (hz317.symm.trans (((ehp313 _ _ (Or.inr (by omega)))).trans (RK_pl K2X220)))
                                exact RRES_bad ⟨z324, rfl, by omega⟩ (h322.trans (congrArg some (by omega))) (rhp318.trans (congrArg some PL)))⟩)
                    · skip
                      have c325 : z217.toInt = 0 := by omega
                      refine bs_lit (k := 0) rfl rfl fun z326 hz326 => ?_
                      exact bs_zret rfl rfl (by omega) (by omega) (by rw [hQ]; exact ⟨thp216, Hhp216, Fhp216, bs_an0, sf_S_cons (sf_s1 (x := z326.toInt) rfl (by omega) (by omega)) (sf_S_nil), (fun _ => by
                              skip
                              rw [lnx_amt (by omega), show ((tok B n lim i).k - 66).toNat = 2 by omega]
                              show RRES _ _ _ _ _ (lold (tok B n lim) s 0 (s.h 0) (i + 1) _)
                              rcases X220.resolve_left (fun h => absurd h.1 (by omega)) with ⟨Y0, P1, ⟨P2, P3⟩ | ⟨⟨P2, P4⟩, P3⟩⟩
                              · rw [lold_1 P2]
                                exact RRES_bad ⟨z326, rfl, by omega⟩ P3 P1
                              · rw [lold_3 P2 (by omega)]
                                exact RRES_bad ⟨z326, rfl, by omega⟩ P3 P1)⟩)
                  · exfalso; omega
              · skip
                refine bs_lit (k := 1) rfl rfl fun z327 hz327 => ?_
                refine Ev.step (j := 245) (s' := ([some (.ref 69), none, none, none], [.int z327], (0, 0), hp47)) rfl rfl ?_
                refine Ev.step (j := 246) (s' := ([some (.ref 69), some (.int z327), none, none], [], (0, 0), hp47)) rfl rfl ?_
                refine Ev.step (j := 247) (s' := ([some (.ref 69), some (.int z327), none, none], [.int z327], (0, 0), hp47)) rfl rfl ?_
                refine bs_ifge rfl (fun c328 => ?_) (fun c328 => ?_)
                · skip
                  refine Ev.step (j := 257) (s' := ([some (.ref 69), some (.int z327), none, none], [.ref 69], (0, 0), hp47)) rfl rfl ?_
                  refine bs_callx (K := kq_X11_next_v) [.ref 69] [] rfl ce_X11_next_v Hhp47 rfl rfl rfl (bs_rcv (g := 11) Hhp47 (bs_R.uq Hhp47 (g := 11) rfl) (by decide) rfl) rfl ?_ (sf_S_nil) fun r329 hp330 thp330 Hhp330 fhp330 ahp330 php330 xhp330 => ?_
                  · intro q k h
                    match q, h with
                    | 0, h => cases h; exact bs_jR (bs_R.uq Hhp47 (g := 11) rfl)
                    | q + 1, h => cases h
                  obtain rfl := ahp330.1 rfl
                  have Fhp330 := sf_fr_tr Fhp47 (sf_fr_wider (W := [(11, 4, 4), (11, 11, 18), (11, 20, 20), (133, 0, 119), (135, 0, 0), (137, 0, 3)]) rfl fhp330)
                  refine (show Ev _ 260 ([some (.ref 69), some (.int z327), none, none], [], (0, 0), hp330) _ from ?_)
                  have K331 := (RK_next Hhp47 fhp330 rfl rfl rfl xhp330 K50).1
                  have R332 := RES_fr Hhp47 fhp330 rfl R52
                  have S333 := SR_fr Hhp47 fhp330 rfl rfl rfl rfl S51
                  refine Ev.step (j := 261) (s' := ([some (.ref 69), some (.int z327), none, none], [.ref 69], (0, 0), hp330)) rfl rfl ?_
                  refine bs_lit (k := 14) rfl rfl fun z334 hz334 => ?_
                  refine Ev.step (j := 264) (s' := ([some (.ref 69), some (.int z327), none, none], [.ref 69, .int z334, .ref 69], (0, 0), hp330)) rfl rfl ?_
                  refine bs_getU (g := 11) (g1 := 133) rfl rfl Hhp330 (bs_R.uq Hhp330 (g := 11) rfl) (by decide) rfl rfl ?_
                  refine bs_lit (k := 0) rfl rfl fun z335 hz335 => ?_
                  refine bs_ld (g := 133) 0 0 (0, 6) rfl Hhp330 (bs_R.uq Hhp330 (g := 133) rfl) (by decide) rfl (by decide) (by decide) rfl (by decide) (by omega) (by omega) fun z336 hz336 lz336 gz336 => ?_
                  dsimp only at lz336 gz336
                  replace hz336 := bs_at hz336 (show z335.toInt.toNat = 0 by omega)
                  have c0_z336 : z336.toInt = s.h 0 := Option.some.inj (hz336.symm.trans (S333.1 0 (by decide)))
                  refine bs_callx (K := kq_X11_takesName_v) [.ref 69, .int z334, .int z336] [] rfl ce_X11_takesName_v Hhp330 rfl rfl rfl (bs_rcv (g := 11) Hhp330 (bs_R.uq Hhp330 (g := 11) rfl) (by decide) rfl) rfl ?_ (sf_S_cons (sf_s1 (x := z334.toInt) rfl (by omega) (by omega)) (sf_S_cons (sf_s1 (x := z336.toInt) rfl (by omega) (by omega)) (sf_S_nil))) fun r337 hp338 thp338 Hhp338 fhp338 ahp338 php338 xhp338 => ?_
                  · intro q k h
                    match q, h with
                    | 0, h => cases h; exact bs_jR (bs_R.uq Hhp330 (g := 11) rfl)
                    | 1, h => cases h; exact sf_j0
                    | 2, h => cases h; exact sf_j0
                    | q + 3, h => cases h
                  obtain ⟨z339, rfl⟩ := bs_anI ahp338
                  have rgz339 := n_range z339
                  have Fhp338 := sf_fr_tr Fhp330 (sf_fr_wider (W := [(11, 4, 4), (11, 11, 18), (11, 20, 20), (133, 0, 119), (135, 0, 0), (137, 0, 3)]) rfl fhp338)
                  have h340 : sf_rd hp338 72 0 = some z336.toInt := (fhp338.2.2.1 _ (bs_R.uq Hhp330 (g := 133) (p := 72) rfl).1 _ (by rw [(bs_R.uq Hhp330 (g := 133) (p := 72) rfl).2]; rfl)).trans hz336
                  obtain ⟨uz339, vz339⟩ := bs_s1 (x := z339.toInt) rfl (php338 _ (List.mem_of_getElem? (i := 0) rfl))
                  refine (show Ev _ 272 ([some (.ref 69), some (.int z327), none, none], [.int z339], (0, 0), hp338) _ from ?_)
                  obtain ⟨q341, rq341, X342⟩ := xhp338 _ _ s.nm 0 B n lim (i + 1) rfl (fun k hk => by rw [show z334.toInt.toNat + k = 14 + k by omega, Nat.zero_add]; exact S333.2.2.2.1 k (by omega)) R332 K331
                  obtain rfl := Value.int.inj (Option.some.inj rq341)
                  rw [show z336.toInt = s.h 0 by omega] at X342
                  have R343 := RES_fr Hhp330 fhp338 rfl R332
                  have S344 := SR_fr Hhp330 fhp338 rfl rfl rfl rfl S333
                  refine bs_ifne rfl (fun c345 => ?_) (fun c345 => ?_)
                  · skip
                    obtain ⟨Y0X342, Y1X342, Y2X342, Y3X342, Y4X342⟩ := X342.resolve_right (fun h => absurd h.1 (by omega))
                    have K2X342 : RK hp338 B n lim (i + 2) := Y4X342
                    have FBX342 : fnd s.nm 0 (s.h 0) (tok B n lim (i + 1)).v ≤ 5 := by have := fnd_lt (nm := s.nm) (o := 0) (n := s.h 0) (v := (tok B n lim (i + 1)).v); omega
                    refine Ev.step (j := 278) (s' := ([some (.ref 69), some (.int z327), none, none], [.ref 69], (0, 0), hp338)) rfl rfl ?_
                    refine bs_getI 11 rfl rfl rfl Hhp338 (bs_R.uq Hhp338 (g := 11) rfl) (by decide) rfl fun z346 hz346 lz346 gz346 => ?_
                    have e347 : z346.toInt = (fnd s.nm 0 (s.h 0) (tok B n lim (i + 1)).v) := Option.some.inj (hz346.symm.trans Y3X342)
                    refine Ev.step (j := 282) (s' := ([some (.ref 69), some (.int z327), some (.int z346), none], [], (0, 0), hp338)) rfl rfl ?_
                    refine Ev.step (j := 283) (s' := ([some (.ref 69), some (.int z327), some (.int z346), none], [.ref 69], (0, 0), hp338)) rfl rfl ?_
                    refine bs_getI 11 rfl rfl rfl Hhp338 (bs_R.uq Hhp338 (g := 11) rfl) (by decide) rfl fun z348 hz348 lz348 gz348 => ?_
                    refine bs_lit (k := 2) rfl rfl fun z349 hz349 => ?_
                    refine bs_eq rfl (fun c350 => ?_) (fun c350 => ?_)
                    · skip
                      have c351 : z348.toInt = 2 := by omega
                      refine Ev.step (j := 297) (s' := ([some (.ref 69), some (.int z327), some (.int z346), none], [.ref 69], (0, 0), hp338)) rfl rfl ?_
                      refine bs_getI 11 rfl rfl rfl Hhp338 (bs_R.uq Hhp338 (g := 11) rfl) (by decide) rfl fun z352 hz352 lz352 gz352 => ?_
                      refine bs_lit (k := 1) rfl rfl fun z353 hz353 => ?_
                      refine bs_le rfl (fun c354 => ?_) (fun c354 => ?_)
                      · skip
                        have KT : (tok B n lim (i + 2)).k = 3 := rkk_2 (by have KK := RK_k K2X342 hz348; omega)
                        have VT := RK_v K2X342 KT hz352
                        have NT_ := tok_nok B n lim (i + 2) KT
                        refine bs_lit (k := 2) rfl rfl fun z355 hz355 => ?_
                        refine Ev.step (j := 312) (s' := ([some (.ref 69), some (.int z327), some (.int z346), none], [.int z346, .int z355], (0, 0), hp338)) rfl rfl ?_
                        refine bs_mul (2) rfl (Or.inl hz355) (by rw [hz355]; omega) (by rw [hz355]; omega) fun z356 hz356 => ?_
                        rw [hz355] at hz356
                        refine Ev.step (j := 314) (s' := ([some (.ref 69), some (.int z327), some (.int z346), none], [.ref 69, .int z356], (0, 0), hp338)) rfl rfl ?_
                        refine bs_getI 11 rfl rfl rfl Hhp338 (bs_R.uq Hhp338 (g := 11) rfl) (by decide) rfl fun z357 hz357 lz357 gz357 => ?_
                        have e358 : z357.toInt = z352.toInt := Option.some.inj (hz357.symm.trans hz352)
                        first | (refine bs_add rfl (by omega) (by omega) fun z359 hz359 => ?_) | (refine bs_any rfl fun z359 => ?_)
                        have rz359 := n_range z359
                        refine Ev.step (j := 319) (s' := ([some (.ref 69), some (.int z327), some (.int z346), some (.int z359)], [], (0, 0), hp338)) rfl rfl ?_
                        refine Ev.step (j := 320) (s' := ([some (.ref 69), some (.int z327), some (.int z346), some (.int z359)], [.ref 69], (0, 0), hp338)) rfl rfl ?_
                        refine bs_getU (g := 11) (g1 := 137) rfl rfl Hhp338 (bs_R.uq Hhp338 (g := 11) rfl) (by decide) rfl rfl ?_
                        refine Ev.step (j := 324) (s' := ([some (.ref 69), some (.int z327), some (.int z346), some (.int z359)], [.int z327, .ref 76], (0, 0), hp338)) rfl rfl ?_
                        refine bs_ld (g := 137) 0 3 (-2147483648, 2147483647) rfl Hhp338 (bs_R.uq Hhp338 (g := 137) rfl) (by decide) rfl (by decide) (by decide) rfl (by decide) (by omega) (by omega) fun z360 hz360 lz360 gz360 => ?_
                        dsimp only at lz360 gz360
                        replace hz360 := bs_at hz360 (show z327.toInt.toNat = 1 by omega)
                        refine Ev.step (j := 326) (s' := ([some (.ref 69), some (.int z327), some (.int z346), some (.int z359)], [.int z359, .int z360], (0, 0), hp338)) rfl rfl ?_
                        refine bs_pure [.int z360, .int z359] [] rfl rfl rfl rfl (px_X11_bitOf (by omega) (by omega)) fun z361 hz361 => ?_
                        refine (show Ev _ 329 ([some (.ref 69), some (.int z327), some (.int z346), some (.int z359)], [.int z361], (0, 0), hp338) _ from ?_)
                        rcases hz361 with ⟨ez361, tz361⟩ | ⟨ez361, tz361⟩
                        · skip
                          refine bs_ifeq rfl (fun c362 => ?_) (fun c362 => ?_)
                          · exfalso; omega
                          · skip
                            refine Ev.step (j := 333) (s' := ([some (.ref 69), some (.int z327), some (.int z346), some (.int z359)], [.ref 69], (0, 0), hp338)) rfl rfl ?_
                            refine bs_lit (k := 3) rfl rfl fun z363 hz363 => ?_
                            refine Ev.inl (L := L_X11_bad) (nL := 2) rfl (bs_rcv (g := 11) Hhp338 (bs_R.uq Hhp338 (g := 11) rfl) (by decide) rfl) rfl (Nat.le_of_ble_eq_true rfl) ?_
                            generalize hQ364 : (fun (o : ab_O) => Ev _ _ _ _) = Q364
                            refine (show Ev (ab_T L_X11_bad) 0 ([some (.ref 69), some (.int z363)], [], (0, 0), hp338) Q364 from ?_)
                            refine Ev.step (j := 1) (s' := ([some (.ref 69), some (.int z363)], [.ref 69], (0, 0), hp338)) rfl rfl ?_
                            refine Ev.step (j := 2) (s' := ([some (.ref 69), some (.int z363)], [.int z363, .ref 69], (0, 0), hp338)) rfl rfl ?_
                            refine bs_putIv (W := [(11, 15, 15)]) (g := 11) rfl rfl Hhp338 (bs_R.uq Hhp338 (g := 11) rfl) (by decide) rfl rfl rfl rfl (Or.inl rfl) (by omega) (by omega) fun hp365 Hhp365 fhp365 rhp365 ehp365 qhp365 nhp365 => ?_
                            have Fhp365 := sf_fr_tr Fhp338 (sf_fr_wider (W := [(11, 4, 4), (11, 11, 18), (11, 20, 20), (133, 0, 119), (135, 0, 0), (137, 0, 3)]) rfl fhp365)
                            have h366 : sf_rd hp365 72 0 = some z336.toInt := (ehp365 _ _ (Or.inl (by decide))).trans h340
                            have h367 : sf_rd hp365 69 18 = some (fnd s.nm 0 (s.h 0) (tok B n lim (i + 1)).v) := (ehp365 _ _ (Or.inr (by omega))).trans Y3X342
                            have h368 : sf_rd hp365 69 11 = some z348.toInt := (ehp365 _ _ (Or.inr (by omega))).trans hz348
                            have h369 : sf_rd hp365 69 14 = some z352.toInt := (ehp365 _ _ (Or.inr (by omega))).trans hz352
                            have h370 : sf_rd hp365 76 1 = some z360.toInt := (ehp365 _ _ (Or.inl (by decide))).trans hz360
                            refine Ev.step (j := 6) (s' := ([some (.ref 69), some (.int z363)], [.ref 69], (0, 0), hp365)) rfl rfl ?_
                            refine Ev.step (j := 7) (s' := ([some (.ref 69), some (.int z363)], [.ref 69, .ref 69], (0, 0), hp365)) rfl rfl ?_
                            refine bs_getI 11 rfl rfl rfl Hhp365 (bs_R.uq Hhp365 (g := 11) rfl) (by decide) rfl fun z371 hz371 lz371 gz371 => ?_
                            refine bs_putIv (W := [(11, 16, 16)]) (g := 11) rfl rfl Hhp365 (bs_R.uq Hhp365 (g := 11) rfl) (by decide) rfl rfl rfl rfl (Or.inl rfl) (by omega) (by omega) fun hp372 Hhp372 fhp372 rhp372 ehp372 qhp372 nhp372 => ?_
                            have Fhp372 := sf_fr_tr Fhp365 (sf_fr_wider (W := [(11, 4, 4), (11, 11, 18), (11, 20, 20), (133, 0, 119), (135, 0, 0), (137, 0, 3)]) rfl fhp372)
                            have h373 : sf_rd hp372 72 0 = some z336.toInt := (ehp372 _ _ (Or.inl (by decide))).trans h366
                            have h374 : sf_rd hp372 69 18 = some (fnd s.nm 0 (s.h 0) (tok B n lim (i + 1)).v) := (ehp372 _ _ (Or.inr (by omega))).trans h367
                            have h375 : sf_rd hp372 69 11 = some z348.toInt := (ehp372 _ _ (Or.inr (by omega))).trans h368
                            have h376 : sf_rd hp372 69 14 = some z352.toInt := (ehp372 _ _ (Or.inr (by omega))).trans h369
                            have h377 : sf_rd hp372 76 1 = some z360.toInt := (ehp372 _ _ (Or.inl (by decide))).trans h370
                            have h378 : sf_rd hp372 69 15 = some z363.toInt := (ehp372 _ _ (Or.inr (by omega))).trans rhp365
                            have h379 : sf_rd hp372 69 12 = some z371.toInt := (ehp372 _ _ (Or.inr (by omega))).trans hz371
                            refine bs_lit (k := 0) rfl rfl fun z380 hz380 => ?_
                            refine bs_zret rfl rfl (by omega) (by omega) ?_
                            rw [← hQ364]
                            refine (show Ev _ 337 ([some (.ref 69), some (.int z327), some (.int z346), some (.int z359)], [.int z380], (0, 0), hp372) _ from ?_)
                            exact bs_zret rfl rfl (by omega) (by omega) (by rw [hQ]; exact ⟨thp338, Hhp372, Fhp372, bs_an0, sf_S_cons (sf_s1 (x := z380.toInt) rfl (by omega) (by omega)) (sf_S_nil), (fun _ => by
                                    skip
                                    rw [lnx_amt (by omega), show ((tok B n lim i).k - 66).toNat = 1 by omega]
                                    show RRES _ _ _ _ _ (lold (tok B n lim) s 0 (s.h 0) (i + 1) _)
                                    rw [lold_o Y1X342 (by omega)]
                                    have K3 : (tok B n lim (i + 2)).k = 3 := rkk_2 (by have KK := RK_k K2X342 hz348; omega)
                                    have VV := RK_v K2X342 K3 hz352
                                    have N9 := tok_nok B n lim (i + 2) K3
                                    rw [lnum_o K3 (by omega) (by omega)]
                                    have EK : (2 * fnd s.nm 0 (s.h 0) (tok B n lim (i + 1)).v + (tok B n lim (i + 2)).v).toNat = z359.toInt.toNat := by omega
                                    rw [EK]
                                    obtain ⟨A9, hA9, hB9⟩ := S344.2.2.1 1 (by decide)
                                    have EA : z360.toInt = A9 := Option.some.inj (hz360.symm.trans hA9)
                                    have TB9 := hB9 z359.toInt.toNat (by omega)
                                    rw [← EA, tz361] at TB9
                                    rw [if_pos TB9.symm]
                                    have PL : z371.toInt = (tok B n lim (i + 2)).pl := Option.some.inj (hz371.symm.trans (((ehp365 _ _ (Or.inr (by omega)))).trans (RK_pl K2X342)))
                                    exact RRES_bad ⟨z380, rfl, by omega⟩ (h378.trans (congrArg some (by omega))) (rhp372.trans (congrArg some PL)))⟩)
                        · skip
                          refine bs_ifeq rfl (fun c381 => ?_) (fun c381 => ?_)
                          · skip
                            refine Ev.step (j := 339) (s' := ([some (.ref 69), some (.int z327), some (.int z346), some (.int z359)], [.ref 69], (0, 0), hp338)) rfl rfl ?_
                            refine bs_getU (g := 11) (g1 := 137) rfl rfl Hhp338 (bs_R.uq Hhp338 (g := 11) rfl) (by decide) rfl rfl ?_
                            refine Ev.step (j := 343) (s' := ([some (.ref 69), some (.int z327), some (.int z346), some (.int z359)], [.int z327, .ref 76], (0, 0), hp338)) rfl rfl ?_
                            refine Ev.step (j := 344) (s' := ([some (.ref 69), some (.int z327), some (.int z346), some (.int z359)], [.int z327, .ref 76, .int z327, .ref 76], (0, 0), hp338)) rfl rfl ?_
                            refine bs_ld (g := 137) 0 3 (-2147483648, 2147483647) rfl Hhp338 (bs_R.uq Hhp338 (g := 137) rfl) (by decide) rfl (by decide) (by decide) rfl (by decide) (by omega) (by omega) fun z382 hz382 lz382 gz382 => ?_
                            dsimp only at lz382 gz382
                            replace hz382 := bs_at hz382 (show z327.toInt.toNat = 1 by omega)
                            have e383 : z382.toInt = z360.toInt := Option.some.inj (hz382.symm.trans hz360)
                            refine bs_lit (k := 1) rfl rfl fun z384 hz384 => ?_
                            refine Ev.step (j := 347) (s' := ([some (.ref 69), some (.int z327), some (.int z346), some (.int z359)], [.int z359, .int z384, .int z382, .int z327, .ref 76], (0, 0), hp338)) rfl rfl ?_
                            refine Ev.step (j := 348) (s' := ([some (.ref 69), some (.int z327), some (.int z346), some (.int z359)], [.int (z384 <<< (z359 &&& 31)), .int z382, .int z327, .ref 76], (0, 0), hp338)) rfl rfl ?_
                            have rz385 := n_range (z384 <<< (z359 &&& 31))
                            refine Ev.step (j := 349) (s' := ([some (.ref 69), some (.int z327), some (.int z346), some (.int z359)], [.int (z382 ||| (z384 <<< (z359 &&& 31))), .int z327, .ref 76], (0, 0), hp338)) rfl rfl ?_
                            have rz386 := n_range (z382 ||| (z384 <<< (z359 &&& 31)))
                            refine bs_stv (W := [(137, 0, 3)]) (g := 137) 0 3 (-2147483648, 2147483647) rfl Hhp338 (bs_R.uq Hhp338 (g := 137) rfl) (by decide) rfl rfl (by decide) rfl rfl (by omega) (by omega) (by dsimp only; omega) (by dsimp only; omega) fun hp387 Hhp387 fhp387 rhp387 ehp387 qhp387 nhp387 => ?_
                            replace rhp387 := bs_at rhp387 (show z327.toInt.toNat = 1 by omega)
                            have Fhp387 := sf_fr_tr Fhp338 (sf_fr_wider (W := [(11, 4, 4), (11, 11, 18), (11, 20, 20), (133, 0, 119), (135, 0, 0), (137, 0, 3)]) rfl fhp387)
                            have h388 : sf_rd hp387 72 0 = some z336.toInt := (ehp387 _ _ (Or.inl (by decide))).trans h340
                            have h389 : sf_rd hp387 69 18 = some (fnd s.nm 0 (s.h 0) (tok B n lim (i + 1)).v) := (ehp387 _ _ (Or.inl (by decide))).trans Y3X342
                            have h390 : sf_rd hp387 69 11 = some z348.toInt := (ehp387 _ _ (Or.inl (by decide))).trans hz348
                            have h391 : sf_rd hp387 69 14 = some z352.toInt := (ehp387 _ _ (Or.inl (by decide))).trans hz352
                            have K392 := RK_keep Hhp338 fhp387 rfl rfl (nhp387 _ _) K2X342
                            have R393 := RES_fr Hhp338 fhp387 rfl R343
                            refine Ev.step (j := 351) (s' := ([some (.ref 69), some (.int z327), some (.int z346), some (.int z359)], [.ref 69], (0, 0), hp387)) rfl rfl ?_
                            refine bs_callx (K := kq_X11_next_v) [.ref 69] [] rfl ce_X11_next_v Hhp387 rfl rfl rfl (bs_rcv (g := 11) Hhp387 (bs_R.uq Hhp387 (g := 11) rfl) (by decide) rfl) rfl ?_ (sf_S_nil) fun r394 hp395 thp395 Hhp395 fhp395 ahp395 php395 xhp395 => ?_
                            · intro q k h
                              match q, h with
                              | 0, h => cases h; exact bs_jR (bs_R.uq Hhp387 (g := 11) rfl)
                              | q + 1, h => cases h
                            obtain rfl := ahp395.1 rfl
                            have Fhp395 := sf_fr_tr Fhp387 (sf_fr_wider (W := [(11, 4, 4), (11, 11, 18), (11, 20, 20), (133, 0, 119), (135, 0, 0), (137, 0, 3)]) rfl fhp395)
                            have h396 : sf_rd hp395 72 0 = some z336.toInt := (fhp395.2.2.1 _ (bs_R.uq Hhp387 (g := 133) (p := 72) rfl).1 _ (by rw [(bs_R.uq Hhp387 (g := 133) (p := 72) rfl).2]; rfl)).trans h388
                            have h397 : sf_rd hp395 69 18 = some (fnd s.nm 0 (s.h 0) (tok B n lim (i + 1)).v) := (fhp395.2.2.1 _ (bs_R.uq Hhp387 (g := 11) (p := 69) rfl).1 _ (by rw [(bs_R.uq Hhp387 (g := 11) (p := 69) rfl).2]; rfl)).trans h389
                            have h398 : sf_rd hp395 76 1 = some (z382 ||| (z384 <<< (z359 &&& 31))).toInt := (fhp395.2.2.1 _ (bs_R.uq Hhp387 (g := 137) (p := 76) rfl).1 _ (by rw [(bs_R.uq Hhp387 (g := 137) (p := 76) rfl).2]; rfl)).trans rhp387
                            refine (show Ev _ 354 ([some (.ref 69), some (.int z327), some (.int z346), some (.int z359)], [], (0, 0), hp395) _ from ?_)
                            have K399 := (RK_next Hhp387 fhp395 rfl rfl rfl xhp395 K392).1
                            have R400 := RES_fr Hhp387 fhp395 rfl R393
                            refine Ev.step (j := 355) (s' := ([some (.ref 69), some (.int z327), some (.int z346), some (.int z359)], [.ref 69], (0, 0), hp395)) rfl rfl ?_
                            refine bs_lit (k := 4) rfl rfl fun z401 hz401 => ?_
                            refine bs_lit (k := 12) rfl rfl fun z402 hz402 => ?_
                            refine Ev.step (j := 359) (s' := ([some (.ref 69), some (.int z327), some (.int z346), some (.int z359)], [.int z327, .int z402, .int z401, .ref 69], (0, 0), hp395)) rfl rfl ?_
                            refine bs_mul (1) rfl (Or.inr hz327) (by rw [hz327]; omega) (by rw [hz327]; omega) fun z403 hz403 => ?_
                            rw [hz327] at hz403
                            first | (refine bs_add rfl (by omega) (by omega) fun z404 hz404 => ?_) | (refine bs_any rfl fun z404 => ?_)
                            have rz404 := n_range z404
                            refine Ev.step (j := 362) (s' := ([some (.ref 69), some (.int z327), some (.int z346), some (.int z359)], [.int z359, .int z404, .ref 69], (0, 0), hp395)) rfl rfl ?_
                            first | (refine bs_add rfl (by omega) (by omega) fun z405 hz405 => ?_) | (refine bs_any rfl fun z405 => ?_)
                            have rz405 := n_range z405
                            refine bs_lit (k := 0) rfl rfl fun z406 hz406 => ?_
                            refine Ev.step (j := 365) (s' := ([some (.ref 69), some (.int z327), some (.int z346), some (.int z359)], [.int z327, .int z406, .int z405, .ref 69], (0, 0), hp395)) rfl rfl ?_
                            refine bs_lit (k := 2) rfl rfl fun z407 hz407 => ?_
                            refine bs_ge rfl (fun c408 => ?_) (fun c408 => ?_)
                            · exfalso; omega
                            · skip
                              refine bs_lit (k := 250) rfl rfl fun z409 hz409 => ?_
                              refine Ev.step (j := 377) (s' := ([some (.ref 69), some (.int z327), some (.int z346), some (.int z359)], [.int z409, .int z406, .int z405, .ref 69], (0, 0), hp395)) rfl rfl ?_
                              refine bs_callx (K := kq_X11_puts_v2) [.ref 69, .int z405, .int z406, .int z409] [] rfl ce_X11_puts_v2 Hhp395 rfl rfl rfl (bs_rcv (g := 11) Hhp395 (bs_R.uq Hhp395 (g := 11) rfl) (by decide) rfl) rfl ?_ (sf_S_cons (sf_s1 (x := z405.toInt) rfl (by omega) (by omega)) (sf_S_cons (sf_s1 (x := z406.toInt) rfl (by omega) (by omega)) (sf_S_cons (sf_s1 (x := z409.toInt) rfl (by omega) (by omega)) (sf_S_nil)))) fun r410 hp411 thp411 Hhp411 fhp411 ahp411 php411 xhp411 => ?_
                              · intro q k h
                                match q, h with
                                | 0, h => cases h; exact bs_jR (bs_R.uq Hhp395 (g := 11) rfl)
                                | 1, h => cases h; exact sf_j0
                                | 2, h => cases h; exact sf_j0
                                | 3, h => cases h; exact sf_j0
                                | q + 4, h => cases h
                              obtain ⟨z412, rfl⟩ := bs_anI ahp411
                              have rgz412 := n_range z412
                              have Fhp411 := sf_fr_tr Fhp395 (sf_fr_wider (W := [(11, 4, 4), (11, 11, 18), (11, 20, 20), (133, 0, 119), (135, 0, 0), (137, 0, 3)]) rfl fhp411)
                              have h413 : sf_rd hp411 72 0 = some z336.toInt := (fhp411.2.2.1 _ (bs_R.uq Hhp395 (g := 133) (p := 72) rfl).1 _ (by rw [(bs_R.uq Hhp395 (g := 133) (p := 72) rfl).2]; rfl)).trans h396
                              have h414 : sf_rd hp411 76 1 = some (z382 ||| (z384 <<< (z359 &&& 31))).toInt := (fhp411.2.2.1 _ (bs_R.uq Hhp395 (g := 137) (p := 76) rfl).1 _ (by rw [(bs_R.uq Hhp395 (g := 137) (p := 76) rfl).2]; rfl)).trans h398
                              obtain ⟨uz412, vz412⟩ := bs_s1 (x := z412.toInt) rfl (php411 _ (List.mem_of_getElem? (i := 0) rfl))
                              refine (show Ev _ 380 ([some (.ref 69), some (.int z327), some (.int z346), some (.int z359)], [.int z412], (0, 0), hp411) _ from ?_)
                              obtain ⟨q415, rq415, X416⟩ := xhp411 _ _ _ B n lim (i + 3) rfl K399
                              obtain rfl := Value.int.inj (Option.some.inj rq415)
                              exact bs_zret rfl rfl (by omega) (by omega) (by rw [hQ]; exact ⟨thp411, Hhp411, Fhp411, bs_an0, sf_S_cons (sf_s1 (x := z412.toInt) rfl (by omega) (by omega)) (sf_S_nil), (fun _ => by
                                      skip
                                      rw [lnx_amt (by omega), show ((tok B n lim i).k - 66).toNat = 1 by omega]
                                      show RRES _ _ _ _ _ (lold (tok B n lim) s 0 (s.h 0) (i + 1) _)
                                      rw [lold_o Y1X342 (by omega)]
                                      have K3 : (tok B n lim (i + 2)).k = 3 := rkk_2 (by have KK := RK_k K2X342 hz348; omega)
                                      have VV := RK_v K2X342 K3 hz352
                                      have N9 := tok_nok B n lim (i + 2) K3
                                      rw [lnum_o K3 (by omega) (by omega)]
                                      have EK : (2 * fnd s.nm 0 (s.h 0) (tok B n lim (i + 1)).v + (tok B n lim (i + 2)).v).toNat = z359.toInt.toNat := by omega
                                      rw [EK]
                                      obtain ⟨A9, hA9, hB9⟩ := S344.2.2.1 1 (by decide)
                                      have EA : z360.toInt = A9 := Option.some.inj (hz360.symm.trans hA9)
                                      have TB9 := hB9 z359.toInt.toNat (by omega)
                                      rw [← EA, tz361] at TB9
                                      rw [if_neg (by rw [← TB9]; decide)]
                                      rw [show (if (1 : Nat) = 2 ∨ (1 : Nat) = 3 then (20 : Int) else 250) = 250 from if_neg (by decide)]
                                      rcases X416 with ⟨Y0, Y1, Y2, Y3, Y4, Y5, Y6⟩ | ⟨Y0, P1, ⟨P2, P3⟩ | ⟨⟨P2, P4⟩, P3⟩⟩
                                      · rw [lnum_o Y1 (by omega) (by omega)]
                                        have EP : z405.toInt.toNat = 4 + (12 * 1 + z359.toInt.toNat) := by omega
                                        rw [EP] at Y4 Y5
                                        exact RRES_ok ⟨z412, rfl, by omega⟩ (SR_amt S344 (by decide) (by omega) Y4 (fun q hq => (Y5 q hq).trans (((fhp395.2.2.1 _ (bs_R.uq Hhp387 (g := 133) (p := 72) rfl).1 _ (by rw [(bs_R.uq Hhp387 (g := 133) (p := 72) rfl).2]; rfl)).trans (ehp387 _ _ (Or.inl (by decide)))))) (((fhp411.2.2.1 _ (bs_R.uq Hhp395 (g := 11) (p := 69) rfl).1 _ (by rw [(bs_R.uq Hhp395 (g := 11) (p := 69) rfl).2]; rfl)).trans ((fhp395.2.2.1 _ (bs_R.uq Hhp387 (g := 11) (p := 69) rfl).1 _ (by rw [(bs_R.uq Hhp387 (g := 11) (p := 69) rfl).2]; rfl)).trans (ehp387 _ _ (Or.inl (by decide)))))) (((fhp411.2.2.2.1 _ (bs_R.uq Hhp395 (g := 135) (p := 74) rfl).1 (by rw [(bs_R.uq Hhp395 (g := 135) (p := 74) rfl).2]; rfl)).trans ((fhp395.2.2.2.1 _ (bs_R.uq Hhp387 (g := 135) (p := 74) rfl).1 (by rw [(bs_R.uq Hhp387 (g := 135) (p := 74) rfl).2]; rfl)).trans (fhp387.2.2.2.1 _ (bs_R.uq Hhp338 (g := 135) rfl).1 (by rw [(bs_R.uq Hhp338 (g := 135) rfl).2]; rfl))))) (bs_at h414 (by omega)) (fun A0 hA0 j hj => by rw [show A0 = z382.toInt from (Option.some.inj (hA0.symm.trans hz360)).trans (by omega)]; exact ib_or (by omega) (by omega) (by omega) hj) (fun q hq => ((fhp411.2.2.1 _ (bs_R.uq Hhp395 (g := 137) (p := 76) rfl).1 _ (by rw [(bs_R.uq Hhp395 (g := 137) (p := 76) rfl).2]; rfl)).trans ((fhp395.2.2.1 _ (bs_R.uq Hhp387 (g := 137) (p := 76) rfl).1 _ (by rw [(bs_R.uq Hhp387 (g := 137) (p := 76) rfl).2]; rfl)).trans (ehp387 _ _ (Or.inr (by omega))))))) Y6
                                      · rw [lnum_1 P2]
                                        exact RRES_bad ⟨z412, rfl, by omega⟩ P3 P1
                                      · rw [lnum_2 P2 (by omega)]
                                        exact RRES_bad ⟨z412, rfl, by omega⟩ P3 P1)⟩)
                          · exfalso; omega
                      · skip
                        refine Ev.step (j := 305) (s' := ([some (.ref 69), some (.int z327), some (.int z346), none], [.ref 69], (0, 0), hp338)) rfl rfl ?_
                        refine bs_lit (k := 2) rfl rfl fun z417 hz417 => ?_
                        refine Ev.inl (L := L_X11_bad) (nL := 2) rfl (bs_rcv (g := 11) Hhp338 (bs_R.uq Hhp338 (g := 11) rfl) (by decide) rfl) rfl (Nat.le_of_ble_eq_true rfl) ?_
                        generalize hQ418 : (fun (o : ab_O) => Ev _ _ _ _) = Q418
                        refine (show Ev (ab_T L_X11_bad) 0 ([some (.ref 69), some (.int z417)], [], (0, 0), hp338) Q418 from ?_)
                        refine Ev.step (j := 1) (s' := ([some (.ref 69), some (.int z417)], [.ref 69], (0, 0), hp338)) rfl rfl ?_
                        refine Ev.step (j := 2) (s' := ([some (.ref 69), some (.int z417)], [.int z417, .ref 69], (0, 0), hp338)) rfl rfl ?_
                        refine bs_putIv (W := [(11, 15, 15)]) (g := 11) rfl rfl Hhp338 (bs_R.uq Hhp338 (g := 11) rfl) (by decide) rfl rfl rfl rfl (Or.inl rfl) (by omega) (by omega) fun hp419 Hhp419 fhp419 rhp419 ehp419 qhp419 nhp419 => ?_
                        have Fhp419 := sf_fr_tr Fhp338 (sf_fr_wider (W := [(11, 4, 4), (11, 11, 18), (11, 20, 20), (133, 0, 119), (135, 0, 0), (137, 0, 3)]) rfl fhp419)
                        have h420 : sf_rd hp419 72 0 = some z336.toInt := (ehp419 _ _ (Or.inl (by decide))).trans h340
                        have h421 : sf_rd hp419 69 18 = some (fnd s.nm 0 (s.h 0) (tok B n lim (i + 1)).v) := (ehp419 _ _ (Or.inr (by omega))).trans Y3X342
                        have h422 : sf_rd hp419 69 11 = some z348.toInt := (ehp419 _ _ (Or.inr (by omega))).trans hz348
                        have h423 : sf_rd hp419 69 14 = some z352.toInt := (ehp419 _ _ (Or.inr (by omega))).trans hz352
                        refine Ev.step (j := 6) (s' := ([some (.ref 69), some (.int z417)], [.ref 69], (0, 0), hp419)) rfl rfl ?_
                        refine Ev.step (j := 7) (s' := ([some (.ref 69), some (.int z417)], [.ref 69, .ref 69], (0, 0), hp419)) rfl rfl ?_
                        refine bs_getI 11 rfl rfl rfl Hhp419 (bs_R.uq Hhp419 (g := 11) rfl) (by decide) rfl fun z424 hz424 lz424 gz424 => ?_
                        refine bs_putIv (W := [(11, 16, 16)]) (g := 11) rfl rfl Hhp419 (bs_R.uq Hhp419 (g := 11) rfl) (by decide) rfl rfl rfl rfl (Or.inl rfl) (by omega) (by omega) fun hp425 Hhp425 fhp425 rhp425 ehp425 qhp425 nhp425 => ?_
                        have Fhp425 := sf_fr_tr Fhp419 (sf_fr_wider (W := [(11, 4, 4), (11, 11, 18), (11, 20, 20), (133, 0, 119), (135, 0, 0), (137, 0, 3)]) rfl fhp425)
                        have h426 : sf_rd hp425 72 0 = some z336.toInt := (ehp425 _ _ (Or.inl (by decide))).trans h420
                        have h427 : sf_rd hp425 69 18 = some (fnd s.nm 0 (s.h 0) (tok B n lim (i + 1)).v) := (ehp425 _ _ (Or.inr (by omega))).trans h421
                        have h428 : sf_rd hp425 69 11 = some z348.toInt := (ehp425 _ _ (Or.inr (by omega))).trans h422
                        have h429 : sf_rd hp425 69 14 = some z352.toInt := (ehp425 _ _ (Or.inr (by omega))).trans h423
                        have h430 : sf_rd hp425 69 15 = some z417.toInt := (ehp425 _ _ (Or.inr (by omega))).trans rhp419
                        have h431 : sf_rd hp425 69 12 = some z424.toInt := (ehp425 _ _ (Or.inr (by omega))).trans hz424
                        refine bs_lit (k := 0) rfl rfl fun z432 hz432 => ?_
                        refine bs_zret rfl rfl (by omega) (by omega) ?_
                        rw [← hQ418]
                        refine (show Ev _ 309 ([some (.ref 69), some (.int z327), some (.int z346), none], [.int z432], (0, 0), hp425) _ from ?_)
                        exact bs_zret rfl rfl (by omega) (by omega) (by rw [hQ]; exact ⟨thp338, Hhp425, Fhp425, bs_an0, sf_S_cons (sf_s1 (x := z432.toInt) rfl (by omega) (by omega)) (sf_S_nil), (fun _ => by
                                skip
                                rw [lnx_amt (by omega), show ((tok B n lim i).k - 66).toNat = 1 by omega]
                                show RRES _ _ _ _ _ (lold (tok B n lim) s 0 (s.h 0) (i + 1) _)
                                rw [lold_o Y1X342 (by omega)]
                                have K3 : (tok B n lim (i + 2)).k = 3 := rkk_2 (by have KK := RK_k K2X342 hz348; omega)
                                have VV := RK_v K2X342 K3 hz352
                                have N9 := tok_nok B n lim (i + 2) K3
                                rw [lnum_2 K3 (by omega)]
                                have PL : z424.toInt = (tok B n lim (i + 2)).pl := Option.some.inj (hz424.symm.trans (((ehp419 _ _ (Or.inr (by omega)))).trans (RK_pl K2X342)))
                                exact RRES_bad ⟨z432, rfl, by omega⟩ (h430.trans (congrArg some (by omega))) (rhp425.trans (congrArg some PL)))⟩)
                    · skip
                      refine Ev.step (j := 291) (s' := ([some (.ref 69), some (.int z327), some (.int z346), none], [.ref 69], (0, 0), hp338)) rfl rfl ?_
                      refine bs_lit (k := 1) rfl rfl fun z433 hz433 => ?_
                      refine Ev.inl (L := L_X11_bad) (nL := 2) rfl (bs_rcv (g := 11) Hhp338 (bs_R.uq Hhp338 (g := 11) rfl) (by decide) rfl) rfl (Nat.le_of_ble_eq_true rfl) ?_
                      generalize hQ434 : (fun (o : ab_O) => Ev _ _ _ _) = Q434
                      refine (show Ev (ab_T L_X11_bad) 0 ([some (.ref 69), some (.int z433)], [], (0, 0), hp338) Q434 from ?_)
                      refine Ev.step (j := 1) (s' := ([some (.ref 69), some (.int z433)], [.ref 69], (0, 0), hp338)) rfl rfl ?_
                      refine Ev.step (j := 2) (s' := ([some (.ref 69), some (.int z433)], [.int z433, .ref 69], (0, 0), hp338)) rfl rfl ?_
                      refine bs_putIv (W := [(11, 15, 15)]) (g := 11) rfl rfl Hhp338 (bs_R.uq Hhp338 (g := 11) rfl) (by decide) rfl rfl rfl rfl (Or.inl rfl) (by omega) (by omega) fun hp435 Hhp435 fhp435 rhp435 ehp435 qhp435 nhp435 => ?_
                      have Fhp435 := sf_fr_tr Fhp338 (sf_fr_wider (W := [(11, 4, 4), (11, 11, 18), (11, 20, 20), (133, 0, 119), (135, 0, 0), (137, 0, 3)]) rfl fhp435)
                      have h436 : sf_rd hp435 72 0 = some z336.toInt := (ehp435 _ _ (Or.inl (by decide))).trans h340
                      have h437 : sf_rd hp435 69 18 = some (fnd s.nm 0 (s.h 0) (tok B n lim (i + 1)).v) := (ehp435 _ _ (Or.inr (by omega))).trans Y3X342
                      have h438 : sf_rd hp435 69 11 = some z348.toInt := (ehp435 _ _ (Or.inr (by omega))).trans hz348
                      refine Ev.step (j := 6) (s' := ([some (.ref 69), some (.int z433)], [.ref 69], (0, 0), hp435)) rfl rfl ?_
                      refine Ev.step (j := 7) (s' := ([some (.ref 69), some (.int z433)], [.ref 69, .ref 69], (0, 0), hp435)) rfl rfl ?_
                      refine bs_getI 11 rfl rfl rfl Hhp435 (bs_R.uq Hhp435 (g := 11) rfl) (by decide) rfl fun z439 hz439 lz439 gz439 => ?_
                      refine bs_putIv (W := [(11, 16, 16)]) (g := 11) rfl rfl Hhp435 (bs_R.uq Hhp435 (g := 11) rfl) (by decide) rfl rfl rfl rfl (Or.inl rfl) (by omega) (by omega) fun hp440 Hhp440 fhp440 rhp440 ehp440 qhp440 nhp440 => ?_
                      have Fhp440 := sf_fr_tr Fhp435 (sf_fr_wider (W := [(11, 4, 4), (11, 11, 18), (11, 20, 20), (133, 0, 119), (135, 0, 0), (137, 0, 3)]) rfl fhp440)
                      have h441 : sf_rd hp440 72 0 = some z336.toInt := (ehp440 _ _ (Or.inl (by decide))).trans h436
                      have h442 : sf_rd hp440 69 18 = some (fnd s.nm 0 (s.h 0) (tok B n lim (i + 1)).v) := (ehp440 _ _ (Or.inr (by omega))).trans h437
                      have h443 : sf_rd hp440 69 11 = some z348.toInt := (ehp440 _ _ (Or.inr (by omega))).trans h438
                      have h444 : sf_rd hp440 69 15 = some z433.toInt := (ehp440 _ _ (Or.inr (by omega))).trans rhp435
                      have h445 : sf_rd hp440 69 12 = some z439.toInt := (ehp440 _ _ (Or.inr (by omega))).trans hz439
                      refine bs_lit (k := 0) rfl rfl fun z446 hz446 => ?_
                      refine bs_zret rfl rfl (by omega) (by omega) ?_
                      rw [← hQ434]
                      refine (show Ev _ 295 ([some (.ref 69), some (.int z327), some (.int z346), none], [.int z446], (0, 0), hp440) _ from ?_)
                      exact bs_zret rfl rfl (by omega) (by omega) (by rw [hQ]; exact ⟨thp338, Hhp440, Fhp440, bs_an0, sf_S_cons (sf_s1 (x := z446.toInt) rfl (by omega) (by omega)) (sf_S_nil), (fun _ => by
                              skip
                              rw [lnx_amt (by omega), show ((tok B n lim i).k - 66).toNat = 1 by omega]
                              show RRES _ _ _ _ _ (lold (tok B n lim) s 0 (s.h 0) (i + 1) _)
                              rw [lold_o Y1X342 (by omega)]
                              have K3 : (tok B n lim (i + 2)).k ≠ 3 := fun e => by have KK := RK_k K2X342 hz348; rw [e] at KK; have KK2 : _ = (2 : Int) := KK; omega
                              rw [lnum_1 K3]
                              have PL : z439.toInt = (tok B n lim (i + 2)).pl := Option.some.inj (hz439.symm.trans (((ehp435 _ _ (Or.inr (by omega)))).trans (RK_pl K2X342)))
                              exact RRES_bad ⟨z446, rfl, by omega⟩ (h444.trans (congrArg some (by omega))) (rhp440.trans (congrArg some PL)))⟩)
                  · skip
                    have c447 : z339.toInt = 0 := by omega
                    refine bs_lit (k := 0) rfl rfl fun z448 hz448 => ?_
                    exact bs_zret rfl rfl (by omega) (by omega) (by rw [hQ]; exact ⟨thp338, Hhp338, Fhp338, bs_an0, sf_S_cons (sf_s1 (x := z448.toInt) rfl (by omega) (by omega)) (sf_S_nil), (fun _ => by
                            skip
                            rw [lnx_amt (by omega), show ((tok B n lim i).k - 66).toNat = 1 by omega]
                            show RRES _ _ _ _ _ (lold (tok B n lim) s 0 (s.h 0) (i + 1) _)
                            rcases X342.resolve_left (fun h => absurd h.1 (by omega)) with ⟨Y0, P1, ⟨P2, P3⟩ | ⟨⟨P2, P4⟩, P3⟩⟩
                            · rw [lold_1 P2]
                              exact RRES_bad ⟨z448, rfl, by omega⟩ P3 P1
                            · rw [lold_3 P2 (by omega)]
                              exact RRES_bad ⟨z448, rfl, by omega⟩ P3 P1)⟩)
                · exfalso; omega
            · skip
              refine bs_lit (k := 0) rfl rfl fun z449 hz449 => ?_
              refine Ev.step (j := 245) (s' := ([some (.ref 69), none, none, none], [.int z449], (0, 0), hp38)) rfl rfl ?_
              refine Ev.step (j := 246) (s' := ([some (.ref 69), some (.int z449), none, none], [], (0, 0), hp38)) rfl rfl ?_
              refine Ev.step (j := 247) (s' := ([some (.ref 69), some (.int z449), none, none], [.int z449], (0, 0), hp38)) rfl rfl ?_
              refine bs_ifge rfl (fun c450 => ?_) (fun c450 => ?_)
              · skip
                refine Ev.step (j := 257) (s' := ([some (.ref 69), some (.int z449), none, none], [.ref 69], (0, 0), hp38)) rfl rfl ?_
                refine bs_callx (K := kq_X11_next_v) [.ref 69] [] rfl ce_X11_next_v Hhp38 rfl rfl rfl (bs_rcv (g := 11) Hhp38 (bs_R.uq Hhp38 (g := 11) rfl) (by decide) rfl) rfl ?_ (sf_S_nil) fun r451 hp452 thp452 Hhp452 fhp452 ahp452 php452 xhp452 => ?_
                · intro q k h
                  match q, h with
                  | 0, h => cases h; exact bs_jR (bs_R.uq Hhp38 (g := 11) rfl)
                  | q + 1, h => cases h
                obtain rfl := ahp452.1 rfl
                have Fhp452 := sf_fr_tr Fhp38 (sf_fr_wider (W := [(11, 4, 4), (11, 11, 18), (11, 20, 20), (133, 0, 119), (135, 0, 0), (137, 0, 3)]) rfl fhp452)
                refine (show Ev _ 260 ([some (.ref 69), some (.int z449), none, none], [], (0, 0), hp452) _ from ?_)
                have K453 := (RK_next Hhp38 fhp452 rfl rfl rfl xhp452 K41).1
                have R454 := RES_fr Hhp38 fhp452 rfl R43
                have S455 := SR_fr Hhp38 fhp452 rfl rfl rfl rfl S42
                refine Ev.step (j := 261) (s' := ([some (.ref 69), some (.int z449), none, none], [.ref 69], (0, 0), hp452)) rfl rfl ?_
                refine bs_lit (k := 14) rfl rfl fun z456 hz456 => ?_
                refine Ev.step (j := 264) (s' := ([some (.ref 69), some (.int z449), none, none], [.ref 69, .int z456, .ref 69], (0, 0), hp452)) rfl rfl ?_
                refine bs_getU (g := 11) (g1 := 133) rfl rfl Hhp452 (bs_R.uq Hhp452 (g := 11) rfl) (by decide) rfl rfl ?_
                refine bs_lit (k := 0) rfl rfl fun z457 hz457 => ?_
                refine bs_ld (g := 133) 0 0 (0, 6) rfl Hhp452 (bs_R.uq Hhp452 (g := 133) rfl) (by decide) rfl (by decide) (by decide) rfl (by decide) (by omega) (by omega) fun z458 hz458 lz458 gz458 => ?_
                dsimp only at lz458 gz458
                replace hz458 := bs_at hz458 (show z457.toInt.toNat = 0 by omega)
                have c0_z458 : z458.toInt = s.h 0 := Option.some.inj (hz458.symm.trans (S455.1 0 (by decide)))
                refine bs_callx (K := kq_X11_takesName_v) [.ref 69, .int z456, .int z458] [] rfl ce_X11_takesName_v Hhp452 rfl rfl rfl (bs_rcv (g := 11) Hhp452 (bs_R.uq Hhp452 (g := 11) rfl) (by decide) rfl) rfl ?_ (sf_S_cons (sf_s1 (x := z456.toInt) rfl (by omega) (by omega)) (sf_S_cons (sf_s1 (x := z458.toInt) rfl (by omega) (by omega)) (sf_S_nil))) fun r459 hp460 thp460 Hhp460 fhp460 ahp460 php460 xhp460 => ?_
                · intro q k h
                  match q, h with
                  | 0, h => cases h; exact bs_jR (bs_R.uq Hhp452 (g := 11) rfl)
                  | 1, h => cases h; exact sf_j0
                  | 2, h => cases h; exact sf_j0
                  | q + 3, h => cases h
                obtain ⟨z461, rfl⟩ := bs_anI ahp460
                have rgz461 := n_range z461
                have Fhp460 := sf_fr_tr Fhp452 (sf_fr_wider (W := [(11, 4, 4), (11, 11, 18), (11, 20, 20), (133, 0, 119), (135, 0, 0), (137, 0, 3)]) rfl fhp460)
                have h462 : sf_rd hp460 72 0 = some z458.toInt := (fhp460.2.2.1 _ (bs_R.uq Hhp452 (g := 133) (p := 72) rfl).1 _ (by rw [(bs_R.uq Hhp452 (g := 133) (p := 72) rfl).2]; rfl)).trans hz458
                obtain ⟨uz461, vz461⟩ := bs_s1 (x := z461.toInt) rfl (php460 _ (List.mem_of_getElem? (i := 0) rfl))
                refine (show Ev _ 272 ([some (.ref 69), some (.int z449), none, none], [.int z461], (0, 0), hp460) _ from ?_)
                obtain ⟨q463, rq463, X464⟩ := xhp460 _ _ s.nm 0 B n lim (i + 1) rfl (fun k hk => by rw [show z456.toInt.toNat + k = 14 + k by omega, Nat.zero_add]; exact S455.2.2.2.1 k (by omega)) R454 K453
                obtain rfl := Value.int.inj (Option.some.inj rq463)
                rw [show z458.toInt = s.h 0 by omega] at X464
                have R465 := RES_fr Hhp452 fhp460 rfl R454
                have S466 := SR_fr Hhp452 fhp460 rfl rfl rfl rfl S455
                refine bs_ifne rfl (fun c467 => ?_) (fun c467 => ?_)
                · skip
                  obtain ⟨Y0X464, Y1X464, Y2X464, Y3X464, Y4X464⟩ := X464.resolve_right (fun h => absurd h.1 (by omega))
                  have K2X464 : RK hp460 B n lim (i + 2) := Y4X464
                  have FBX464 : fnd s.nm 0 (s.h 0) (tok B n lim (i + 1)).v ≤ 5 := by have := fnd_lt (nm := s.nm) (o := 0) (n := s.h 0) (v := (tok B n lim (i + 1)).v); omega
                  refine Ev.step (j := 278) (s' := ([some (.ref 69), some (.int z449), none, none], [.ref 69], (0, 0), hp460)) rfl rfl ?_
                  refine bs_getI 11 rfl rfl rfl Hhp460 (bs_R.uq Hhp460 (g := 11) rfl) (by decide) rfl fun z468 hz468 lz468 gz468 => ?_
                  have e469 : z468.toInt = (fnd s.nm 0 (s.h 0) (tok B n lim (i + 1)).v) := Option.some.inj (hz468.symm.trans Y3X464)
                  refine Ev.step (j := 282) (s' := ([some (.ref 69), some (.int z449), some (.int z468), none], [], (0, 0), hp460)) rfl rfl ?_
                  refine Ev.step (j := 283) (s' := ([some (.ref 69), some (.int z449), some (.int z468), none], [.ref 69], (0, 0), hp460)) rfl rfl ?_
                  refine bs_getI 11 rfl rfl rfl Hhp460 (bs_R.uq Hhp460 (g := 11) rfl) (by decide) rfl fun z470 hz470 lz470 gz470 => ?_
                  refine bs_lit (k := 2) rfl rfl fun z471 hz471 => ?_
                  refine bs_eq rfl (fun c472 => ?_) (fun c472 => ?_)
                  · skip
                    have c473 : z470.toInt = 2 := by omega
                    refine Ev.step (j := 297) (s' := ([some (.ref 69), some (.int z449), some (.int z468), none], [.ref 69], (0, 0), hp460)) rfl rfl ?_
                    refine bs_getI 11 rfl rfl rfl Hhp460 (bs_R.uq Hhp460 (g := 11) rfl) (by decide) rfl fun z474 hz474 lz474 gz474 => ?_
                    refine bs_lit (k := 1) rfl rfl fun z475 hz475 => ?_
                    refine bs_le rfl (fun c476 => ?_) (fun c476 => ?_)
                    · skip
                      have KT : (tok B n lim (i + 2)).k = 3 := rkk_2 (by have KK := RK_k K2X464 hz470; omega)
                      have VT := RK_v K2X464 KT hz474
                      have NT_ := tok_nok B n lim (i + 2) KT
                      refine bs_lit (k := 2) rfl rfl fun z477 hz477 => ?_
                      refine Ev.step (j := 312) (s' := ([some (.ref 69), some (.int z449), some (.int z468), none], [.int z468, .int z477], (0, 0), hp460)) rfl rfl ?_
                      refine bs_mul (2) rfl (Or.inl hz477) (by rw [hz477]; omega) (by rw [hz477]; omega) fun z478 hz478 => ?_
                      rw [hz477] at hz478
                      refine Ev.step (j := 314) (s' := ([some (.ref 69), some (.int z449), some (.int z468), none], [.ref 69, .int z478], (0, 0), hp460)) rfl rfl ?_
                      refine bs_getI 11 rfl rfl rfl Hhp460 (bs_R.uq Hhp460 (g := 11) rfl) (by decide) rfl fun z479 hz479 lz479 gz479 => ?_
                      have e480 : z479.toInt = z474.toInt := Option.some.inj (hz479.symm.trans hz474)
                      first | (refine bs_add rfl (by omega) (by omega) fun z481 hz481 => ?_) | (refine bs_any rfl fun z481 => ?_)
                      have rz481 := n_range z481
                      refine Ev.step (j := 319) (s' := ([some (.ref 69), some (.int z449), some (.int z468), some (.int z481)], [], (0, 0), hp460)) rfl rfl ?_
                      refine Ev.step (j := 320) (s' := ([some (.ref 69), some (.int z449), some (.int z468), some (.int z481)], [.ref 69], (0, 0), hp460)) rfl rfl ?_
                      refine bs_getU (g := 11) (g1 := 137) rfl rfl Hhp460 (bs_R.uq Hhp460 (g := 11) rfl) (by decide) rfl rfl ?_
                      refine Ev.step (j := 324) (s' := ([some (.ref 69), some (.int z449), some (.int z468), some (.int z481)], [.int z449, .ref 76], (0, 0), hp460)) rfl rfl ?_
                      refine bs_ld (g := 137) 0 3 (-2147483648, 2147483647) rfl Hhp460 (bs_R.uq Hhp460 (g := 137) rfl) (by decide) rfl (by decide) (by decide) rfl (by decide) (by omega) (by omega) fun z482 hz482 lz482 gz482 => ?_
                      dsimp only at lz482 gz482
                      replace hz482 := bs_at hz482 (show z449.toInt.toNat = 0 by omega)
                      refine Ev.step (j := 326) (s' := ([some (.ref 69), some (.int z449), some (.int z468), some (.int z481)], [.int z481, .int z482], (0, 0), hp460)) rfl rfl ?_
                      refine bs_pure [.int z482, .int z481] [] rfl rfl rfl rfl (px_X11_bitOf (by omega) (by omega)) fun z483 hz483 => ?_
                      refine (show Ev _ 329 ([some (.ref 69), some (.int z449), some (.int z468), some (.int z481)], [.int z483], (0, 0), hp460) _ from ?_)
                      rcases hz483 with ⟨ez483, tz483⟩ | ⟨ez483, tz483⟩
                      · skip
                        refine bs_ifeq rfl (fun c484 => ?_) (fun c484 => ?_)
                        · exfalso; omega
                        · skip
                          refine Ev.step (j := 333) (s' := ([some (.ref 69), some (.int z449), some (.int z468), some (.int z481)], [.ref 69], (0, 0), hp460)) rfl rfl ?_
                          refine bs_lit (k := 3) rfl rfl fun z485 hz485 => ?_
                          refine Ev.inl (L := L_X11_bad) (nL := 2) rfl (bs_rcv (g := 11) Hhp460 (bs_R.uq Hhp460 (g := 11) rfl) (by decide) rfl) rfl (Nat.le_of_ble_eq_true rfl) ?_
                          generalize hQ486 : (fun (o : ab_O) => Ev _ _ _ _) = Q486
                          refine (show Ev (ab_T L_X11_bad) 0 ([some (.ref 69), some (.int z485)], [], (0, 0), hp460) Q486 from ?_)
                          refine Ev.step (j := 1) (s' := ([some (.ref 69), some (.int z485)], [.ref 69], (0, 0), hp460)) rfl rfl ?_
                          refine Ev.step (j := 2) (s' := ([some (.ref 69), some (.int z485)], [.int z485, .ref 69], (0, 0), hp460)) rfl rfl ?_
                          refine bs_putIv (W := [(11, 15, 15)]) (g := 11) rfl rfl Hhp460 (bs_R.uq Hhp460 (g := 11) rfl) (by decide) rfl rfl rfl rfl (Or.inl rfl) (by omega) (by omega) fun hp487 Hhp487 fhp487 rhp487 ehp487 qhp487 nhp487 => ?_
                          have Fhp487 := sf_fr_tr Fhp460 (sf_fr_wider (W := [(11, 4, 4), (11, 11, 18), (11, 20, 20), (133, 0, 119), (135, 0, 0), (137, 0, 3)]) rfl fhp487)
                          have h488 : sf_rd hp487 72 0 = some z458.toInt := (ehp487 _ _ (Or.inl (by decide))).trans h462
                          have h489 : sf_rd hp487 69 18 = some (fnd s.nm 0 (s.h 0) (tok B n lim (i + 1)).v) := (ehp487 _ _ (Or.inr (by omega))).trans Y3X464
                          have h490 : sf_rd hp487 69 11 = some z470.toInt := (ehp487 _ _ (Or.inr (by omega))).trans hz470
                          have h491 : sf_rd hp487 69 14 = some z474.toInt := (ehp487 _ _ (Or.inr (by omega))).trans hz474
                          have h492 : sf_rd hp487 76 0 = some z482.toInt := (ehp487 _ _ (Or.inl (by decide))).trans hz482
                          refine Ev.step (j := 6) (s' := ([some (.ref 69), some (.int z485)], [.ref 69], (0, 0), hp487)) rfl rfl ?_
                          refine Ev.step (j := 7) (s' := ([some (.ref 69), some (.int z485)], [.ref 69, .ref 69], (0, 0), hp487)) rfl rfl ?_
                          refine bs_getI 11 rfl rfl rfl Hhp487 (bs_R.uq Hhp487 (g := 11) rfl) (by decide) rfl fun z493 hz493 lz493 gz493 => ?_
                          refine bs_putIv (W := [(11, 16, 16)]) (g := 11) rfl rfl Hhp487 (bs_R.uq Hhp487 (g := 11) rfl) (by decide) rfl rfl rfl rfl (Or.inl rfl) (by omega) (by omega) fun hp494 Hhp494 fhp494 rhp494 ehp494 qhp494 nhp494 => ?_
                          have Fhp494 := sf_fr_tr Fhp487 (sf_fr_wider (W := [(11, 4, 4), (11, 11, 18), (11, 20, 20), (133, 0, 119), (135, 0, 0), (137, 0, 3)]) rfl fhp494)
                          have h495 : sf_rd hp494 72 0 = some z458.toInt := (ehp494 _ _ (Or.inl (by decide))).trans h488
                          have h496 : sf_rd hp494 69 18 = some (fnd s.nm 0 (s.h 0) (tok B n lim (i + 1)).v) := (ehp494 _ _ (Or.inr (by omega))).trans h489
                          have h497 : sf_rd hp494 69 11 = some z470.toInt := (ehp494 _ _ (Or.inr (by omega))).trans h490
                          have h498 : sf_rd hp494 69 14 = some z474.toInt := (ehp494 _ _ (Or.inr (by omega))).trans h491
                          have h499 : sf_rd hp494 76 0 = some z482.toInt := (ehp494 _ _ (Or.inl (by decide))).trans h492
                          have h500 : sf_rd hp494 69 15 = some z485.toInt := (ehp494 _ _ (Or.inr (by omega))).trans rhp487
                          have h501 : sf_rd hp494 69 12 = some z493.toInt := (ehp494 _ _ (Or.inr (by omega))).trans hz493
                          refine bs_lit (k := 0) rfl rfl fun z502 hz502 => ?_
                          refine bs_zret rfl rfl (by omega) (by omega) ?_
                          rw [← hQ486]
                          refine (show Ev _ 337 ([some (.ref 69), some (.int z449), some (.int z468), some (.int z481)], [.int z502], (0, 0), hp494) _ from ?_)
                          exact bs_zret rfl rfl (by omega) (by omega) (by rw [hQ]; exact ⟨thp460, Hhp494, Fhp494, bs_an0, sf_S_cons (sf_s1 (x := z502.toInt) rfl (by omega) (by omega)) (sf_S_nil), (fun _ => by
                                  skip
                                  rw [lnx_amt (by omega), show ((tok B n lim i).k - 66).toNat = 0 by omega]
                                  show RRES _ _ _ _ _ (lold (tok B n lim) s 0 (s.h 0) (i + 1) _)
                                  rw [lold_o Y1X464 (by omega)]
                                  have K3 : (tok B n lim (i + 2)).k = 3 := rkk_2 (by have KK := RK_k K2X464 hz470; omega)
                                  have VV := RK_v K2X464 K3 hz474
                                  have N9 := tok_nok B n lim (i + 2) K3
                                  rw [lnum_o K3 (by omega) (by omega)]
                                  have EK : (2 * fnd s.nm 0 (s.h 0) (tok B n lim (i + 1)).v + (tok B n lim (i + 2)).v).toNat = z481.toInt.toNat := by omega
                                  rw [EK]
                                  obtain ⟨A9, hA9, hB9⟩ := S466.2.2.1 0 (by decide)
                                  have EA : z482.toInt = A9 := Option.some.inj (hz482.symm.trans hA9)
                                  have TB9 := hB9 z481.toInt.toNat (by omega)
                                  rw [← EA, tz483] at TB9
                                  rw [if_pos TB9.symm]
                                  have PL : z493.toInt = (tok B n lim (i + 2)).pl := Option.some.inj (hz493.symm.trans (((ehp487 _ _ (Or.inr (by omega)))).trans (RK_pl K2X464)))
                                  exact RRES_bad ⟨z502, rfl, by omega⟩ (h500.trans (congrArg some (by omega))) (rhp494.trans (congrArg some PL)))⟩)
                      · skip
                        refine bs_ifeq rfl (fun c503 => ?_) (fun c503 => ?_)
                        · skip
                          refine Ev.step (j := 339) (s' := ([some (.ref 69), some (.int z449), some (.int z468), some (.int z481)], [.ref 69], (0, 0), hp460)) rfl rfl ?_
                          refine bs_getU (g := 11) (g1 := 137) rfl rfl Hhp460 (bs_R.uq Hhp460 (g := 11) rfl) (by decide) rfl rfl ?_
                          refine Ev.step (j := 343) (s' := ([some (.ref 69), some (.int z449), some (.int z468), some (.int z481)], [.int z449, .ref 76], (0, 0), hp460)) rfl rfl ?_
                          refine Ev.step (j := 344) (s' := ([some (.ref 69), some (.int z449), some (.int z468), some (.int z481)], [.int z449, .ref 76, .int z449, .ref 76], (0, 0), hp460)) rfl rfl ?_
                          refine bs_ld (g := 137) 0 3 (-2147483648, 2147483647) rfl Hhp460 (bs_R.uq Hhp460 (g := 137) rfl) (by decide) rfl (by decide) (by decide) rfl (by decide) (by omega) (by omega) fun z504 hz504 lz504 gz504 => ?_
                          dsimp only at lz504 gz504
                          replace hz504 := bs_at hz504 (show z449.toInt.toNat = 0 by omega)
                          have e505 : z504.toInt = z482.toInt := Option.some.inj (hz504.symm.trans hz482)
                          refine bs_lit (k := 1) rfl rfl fun z506 hz506 => ?_
                          refine Ev.step (j := 347) (s' := ([some (.ref 69), some (.int z449), some (.int z468), some (.int z481)], [.int z481, .int z506, .int z504, .int z449, .ref 76], (0, 0), hp460)) rfl rfl ?_
                          refine Ev.step (j := 348) (s' := ([some (.ref 69), some (.int z449), some (.int z468), some (.int z481)], [.int (z506 <<< (z481 &&& 31)), .int z504, .int z449, .ref 76], (0, 0), hp460)) rfl rfl ?_
                          have rz507 := n_range (z506 <<< (z481 &&& 31))
                          refine Ev.step (j := 349) (s' := ([some (.ref 69), some (.int z449), some (.int z468), some (.int z481)], [.int (z504 ||| (z506 <<< (z481 &&& 31))), .int z449, .ref 76], (0, 0), hp460)) rfl rfl ?_
                          have rz508 := n_range (z504 ||| (z506 <<< (z481 &&& 31)))
                          refine bs_stv (W := [(137, 0, 3)]) (g := 137) 0 3 (-2147483648, 2147483647) rfl Hhp460 (bs_R.uq Hhp460 (g := 137) rfl) (by decide) rfl rfl (by decide) rfl rfl (by omega) (by omega) (by dsimp only; omega) (by dsimp only; omega) fun hp509 Hhp509 fhp509 rhp509 ehp509 qhp509 nhp509 => ?_
                          replace rhp509 := bs_at rhp509 (show z449.toInt.toNat = 0 by omega)
                          have Fhp509 := sf_fr_tr Fhp460 (sf_fr_wider (W := [(11, 4, 4), (11, 11, 18), (11, 20, 20), (133, 0, 119), (135, 0, 0), (137, 0, 3)]) rfl fhp509)
                          have h510 : sf_rd hp509 72 0 = some z458.toInt := (ehp509 _ _ (Or.inl (by decide))).trans h462
                          have h511 : sf_rd hp509 69 18 = some (fnd s.nm 0 (s.h 0) (tok B n lim (i + 1)).v) := (ehp509 _ _ (Or.inl (by decide))).trans Y3X464
                          have h512 : sf_rd hp509 69 11 = some z470.toInt := (ehp509 _ _ (Or.inl (by decide))).trans hz470
                          have h513 : sf_rd hp509 69 14 = some z474.toInt := (ehp509 _ _ (Or.inl (by decide))).trans hz474
                          have K514 := RK_keep Hhp460 fhp509 rfl rfl (nhp509 _ _) K2X464
                          have R515 := RES_fr Hhp460 fhp509 rfl R465
                          refine Ev.step (j := 351) (s' := ([some (.ref 69), some (.int z449), some (.int z468), some (.int z481)], [.ref 69], (0, 0), hp509)) rfl rfl ?_
                          refine bs_callx (K := kq_X11_next_v) [.ref 69] [] rfl ce_X11_next_v Hhp509 rfl rfl rfl (bs_rcv (g := 11) Hhp509 (bs_R.uq Hhp509 (g := 11) rfl) (by decide) rfl) rfl ?_ (sf_S_nil) fun r516 hp517 thp517 Hhp517 fhp517 ahp517 php517 xhp517 => ?_
                          · intro q k h
                            match q, h with
                            | 0, h => cases h; exact bs_jR (bs_R.uq Hhp509 (g := 11) rfl)
                            | q + 1, h => cases h
                          obtain rfl := ahp517.1 rfl
                          have Fhp517 := sf_fr_tr Fhp509 (sf_fr_wider (W := [(11, 4, 4), (11, 11, 18), (11, 20, 20), (133, 0, 119), (135, 0, 0), (137, 0, 3)]) rfl fhp517)
                          have h518 : sf_rd hp517 72 0 = some z458.toInt := (fhp517.2.2.1 _ (bs_R.uq Hhp509 (g := 133) (p := 72) rfl).1 _ (by rw [(bs_R.uq Hhp509 (g := 133) (p := 72) rfl).2]; rfl)).trans h510
                          have h519 : sf_rd hp517 69 18 = some (fnd s.nm 0 (s.h 0) (tok B n lim (i + 1)).v) := (fhp517.2.2.1 _ (bs_R.uq Hhp509 (g := 11) (p := 69) rfl).1 _ (by rw [(bs_R.uq Hhp509 (g := 11) (p := 69) rfl).2]; rfl)).trans h511
                          have h520 : sf_rd hp517 76 0 = some (z504 ||| (z506 <<< (z481 &&& 31))).toInt := (fhp517.2.2.1 _ (bs_R.uq Hhp509 (g := 137) (p := 76) rfl).1 _ (by rw [(bs_R.uq Hhp509 (g := 137) (p := 76) rfl).2]; rfl)).trans rhp509
                          refine (show Ev _ 354 ([some (.ref 69), some (.int z449), some (.int z468), some (.int z481)], [], (0, 0), hp517) _ from ?_)
                          have K521 := (RK_next Hhp509 fhp517 rfl rfl rfl xhp517 K514).1
                          have R522 := RES_fr Hhp509 fhp517 rfl R515
                          refine Ev.step (j := 355) (s' := ([some (.ref 69), some (.int z449), some (.int z468), some (.int z481)], [.ref 69], (0, 0), hp517)) rfl rfl ?_
                          refine bs_lit (k := 4) rfl rfl fun z523 hz523 => ?_
                          refine bs_lit (k := 12) rfl rfl fun z524 hz524 => ?_
                          refine Ev.step (j := 359) (s' := ([some (.ref 69), some (.int z449), some (.int z468), some (.int z481)], [.int z449, .int z524, .int z523, .ref 69], (0, 0), hp517)) rfl rfl ?_
                          refine bs_mul (0) rfl (Or.inr hz449) (by rw [hz449]; omega) (by rw [hz449]; omega) fun z525 hz525 => ?_
                          rw [hz449] at hz525
                          first | (refine bs_add rfl (by omega) (by omega) fun z526 hz526 => ?_) | (refine bs_any rfl fun z526 => ?_)
                          have rz526 := n_range z526
                          refine Ev.step (j := 362) (s' := ([some (.ref 69), some (.int z449), some (.int z468), some (.int z481)], [.int z481, .int z526, .ref 69], (0, 0), hp517)) rfl rfl ?_
                          first | (refine bs_add rfl (by omega) (by omega) fun z527 hz527 => ?_) | (refine bs_any rfl fun z527 => ?_)
                          have rz527 := n_range z527
                          refine bs_lit (k := 0) rfl rfl fun z528 hz528 => ?_
                          refine Ev.step (j := 365) (s' := ([some (.ref 69), some (.int z449), some (.int z468), some (.int z481)], [.int z449, .int z528, .int z527, .ref 69], (0, 0), hp517)) rfl rfl ?_
                          refine bs_lit (k := 2) rfl rfl fun z529 hz529 => ?_
                          refine bs_ge rfl (fun c530 => ?_) (fun c530 => ?_)
                          · exfalso; omega
                          · skip
                            refine bs_lit (k := 250) rfl rfl fun z531 hz531 => ?_
                            refine Ev.step (j := 377) (s' := ([some (.ref 69), some (.int z449), some (.int z468), some (.int z481)], [.int z531, .int z528, .int z527, .ref 69], (0, 0), hp517)) rfl rfl ?_
                            refine bs_callx (K := kq_X11_puts_v2) [.ref 69, .int z527, .int z528, .int z531] [] rfl ce_X11_puts_v2 Hhp517 rfl rfl rfl (bs_rcv (g := 11) Hhp517 (bs_R.uq Hhp517 (g := 11) rfl) (by decide) rfl) rfl ?_ (sf_S_cons (sf_s1 (x := z527.toInt) rfl (by omega) (by omega)) (sf_S_cons (sf_s1 (x := z528.toInt) rfl (by omega) (by omega)) (sf_S_cons (sf_s1 (x := z531.toInt) rfl (by omega) (by omega)) (sf_S_nil)))) fun r532 hp533 thp533 Hhp533 fhp533 ahp533 php533 xhp533 => ?_
                            · intro q k h
                              match q, h with
                              | 0, h => cases h; exact bs_jR (bs_R.uq Hhp517 (g := 11) rfl)
                              | 1, h => cases h; exact sf_j0
                              | 2, h => cases h; exact sf_j0
                              | 3, h => cases h; exact sf_j0
                              | q + 4, h => cases h
                            obtain ⟨z534, rfl⟩ := bs_anI ahp533
                            have rgz534 := n_range z534
                            have Fhp533 := sf_fr_tr Fhp517 (sf_fr_wider (W := [(11, 4, 4), (11, 11, 18), (11, 20, 20), (133, 0, 119), (135, 0, 0), (137, 0, 3)]) rfl fhp533)
                            have h535 : sf_rd hp533 72 0 = some z458.toInt := (fhp533.2.2.1 _ (bs_R.uq Hhp517 (g := 133) (p := 72) rfl).1 _ (by rw [(bs_R.uq Hhp517 (g := 133) (p := 72) rfl).2]; rfl)).trans h518
                            have h536 : sf_rd hp533 76 0 = some (z504 ||| (z506 <<< (z481 &&& 31))).toInt := (fhp533.2.2.1 _ (bs_R.uq Hhp517 (g := 137) (p := 76) rfl).1 _ (by rw [(bs_R.uq Hhp517 (g := 137) (p := 76) rfl).2]; rfl)).trans h520
                            obtain ⟨uz534, vz534⟩ := bs_s1 (x := z534.toInt) rfl (php533 _ (List.mem_of_getElem? (i := 0) rfl))
                            refine (show Ev _ 380 ([some (.ref 69), some (.int z449), some (.int z468), some (.int z481)], [.int z534], (0, 0), hp533) _ from ?_)
                            obtain ⟨q537, rq537, X538⟩ := xhp533 _ _ _ B n lim (i + 3) rfl K521
                            obtain rfl := Value.int.inj (Option.some.inj rq537)
                            exact bs_zret rfl rfl (by omega) (by omega) (by rw [hQ]; exact ⟨thp533, Hhp533, Fhp533, bs_an0, sf_S_cons (sf_s1 (x := z534.toInt) rfl (by omega) (by omega)) (sf_S_nil), (fun _ => by
                                    skip
                                    rw [lnx_amt (by omega), show ((tok B n lim i).k - 66).toNat = 0 by omega]
                                    show RRES _ _ _ _ _ (lold (tok B n lim) s 0 (s.h 0) (i + 1) _)
                                    rw [lold_o Y1X464 (by omega)]
                                    have K3 : (tok B n lim (i + 2)).k = 3 := rkk_2 (by have KK := RK_k K2X464 hz470; omega)
                                    have VV := RK_v K2X464 K3 hz474
                                    have N9 := tok_nok B n lim (i + 2) K3
                                    rw [lnum_o K3 (by omega) (by omega)]
                                    have EK : (2 * fnd s.nm 0 (s.h 0) (tok B n lim (i + 1)).v + (tok B n lim (i + 2)).v).toNat = z481.toInt.toNat := by omega
                                    rw [EK]
                                    obtain ⟨A9, hA9, hB9⟩ := S466.2.2.1 0 (by decide)
                                    have EA : z482.toInt = A9 := Option.some.inj (hz482.symm.trans hA9)
                                    have TB9 := hB9 z481.toInt.toNat (by omega)
                                    rw [← EA, tz483] at TB9
                                    rw [if_neg (by rw [← TB9]; decide)]
                                    rw [show (if (0 : Nat) = 2 ∨ (0 : Nat) = 3 then (20 : Int) else 250) = 250 from if_neg (by decide)]
                                    rcases X538 with ⟨Y0, Y1, Y2, Y3, Y4, Y5, Y6⟩ | ⟨Y0, P1, ⟨P2, P3⟩ | ⟨⟨P2, P4⟩, P3⟩⟩
                                    · rw [lnum_o Y1 (by omega) (by omega)]
                                      have EP : z527.toInt.toNat = 4 + (12 * 0 + z481.toInt.toNat) := by omega
                                      rw [EP] at Y4 Y5
                                      exact RRES_ok ⟨z534, rfl, by omega⟩ (SR_amt S466 (by decide) (by omega) Y4 (fun q hq => (Y5 q hq).trans (((fhp517.2.2.1 _ (bs_R.uq Hhp509 (g := 133) (p := 72) rfl).1 _ (by rw [(bs_R.uq Hhp509 (g := 133) (p := 72) rfl).2]; rfl)).trans (ehp509 _ _ (Or.inl (by decide)))))) (((fhp533.2.2.1 _ (bs_R.uq Hhp517 (g := 11) (p := 69) rfl).1 _ (by rw [(bs_R.uq Hhp517 (g := 11) (p := 69) rfl).2]; rfl)).trans ((fhp517.2.2.1 _ (bs_R.uq Hhp509 (g := 11) (p := 69) rfl).1 _ (by rw [(bs_R.uq Hhp509 (g := 11) (p := 69) rfl).2]; rfl)).trans (ehp509 _ _ (Or.inl (by decide)))))) (((fhp533.2.2.2.1 _ (bs_R.uq Hhp517 (g := 135) (p := 74) rfl).1 (by rw [(bs_R.uq Hhp517 (g := 135) (p := 74) rfl).2]; rfl)).trans ((fhp517.2.2.2.1 _ (bs_R.uq Hhp509 (g := 135) (p := 74) rfl).1 (by rw [(bs_R.uq Hhp509 (g := 135) (p := 74) rfl).2]; rfl)).trans (fhp509.2.2.2.1 _ (bs_R.uq Hhp460 (g := 135) rfl).1 (by rw [(bs_R.uq Hhp460 (g := 135) rfl).2]; rfl))))) (bs_at h536 (by omega)) (fun A0 hA0 j hj => by rw [show A0 = z504.toInt from (Option.some.inj (hA0.symm.trans hz482)).trans (by omega)]; exact ib_or (by omega) (by omega) (by omega) hj) (fun q hq => ((fhp533.2.2.1 _ (bs_R.uq Hhp517 (g := 137) (p := 76) rfl).1 _ (by rw [(bs_R.uq Hhp517 (g := 137) (p := 76) rfl).2]; rfl)).trans ((fhp517.2.2.1 _ (bs_R.uq Hhp509 (g := 137) (p := 76) rfl).1 _ (by rw [(bs_R.uq Hhp509 (g := 137) (p := 76) rfl).2]; rfl)).trans (ehp509 _ _ (Or.inr (by omega))))))) Y6
                                    · rw [lnum_1 P2]
                                      exact RRES_bad ⟨z534, rfl, by omega⟩ P3 P1
                                    · rw [lnum_2 P2 (by omega)]
                                      exact RRES_bad ⟨z534, rfl, by omega⟩ P3 P1)⟩)
                        · exfalso; omega
                    · skip
                      refine Ev.step (j := 305) (s' := ([some (.ref 69), some (.int z449), some (.int z468), none], [.ref 69], (0, 0), hp460)) rfl rfl ?_
                      refine bs_lit (k := 2) rfl rfl fun z539 hz539 => ?_
                      refine Ev.inl (L := L_X11_bad) (nL := 2) rfl (bs_rcv (g := 11) Hhp460 (bs_R.uq Hhp460 (g := 11) rfl) (by decide) rfl) rfl (Nat.le_of_ble_eq_true rfl) ?_
                      generalize hQ540 : (fun (o : ab_O) => Ev _ _ _ _) = Q540
                      refine (show Ev (ab_T L_X11_bad) 0 ([some (.ref 69), some (.int z539)], [], (0, 0), hp460) Q540 from ?_)
                      refine Ev.step (j := 1) (s' := ([some (.ref 69), some (.int z539)], [.ref 69], (0, 0), hp460)) rfl rfl ?_
                      refine Ev.step (j := 2) (s' := ([some (.ref 69), some (.int z539)], [.int z539, .ref 69], (0, 0), hp460)) rfl rfl ?_
                      refine bs_putIv (W := [(11, 15, 15)]) (g := 11) rfl rfl Hhp460 (bs_R.uq Hhp460 (g := 11) rfl) (by decide) rfl rfl rfl rfl (Or.inl rfl) (by omega) (by omega) fun hp541 Hhp541 fhp541 rhp541 ehp541 qhp541 nhp541 => ?_
                      have Fhp541 := sf_fr_tr Fhp460 (sf_fr_wider (W := [(11, 4, 4), (11, 11, 18), (11, 20, 20), (133, 0, 119), (135, 0, 0), (137, 0, 3)]) rfl fhp541)
                      have h542 : sf_rd hp541 72 0 = some z458.toInt := (ehp541 _ _ (Or.inl (by decide))).trans h462
                      have h543 : sf_rd hp541 69 18 = some (fnd s.nm 0 (s.h 0) (tok B n lim (i + 1)).v) := (ehp541 _ _ (Or.inr (by omega))).trans Y3X464
                      have h544 : sf_rd hp541 69 11 = some z470.toInt := (ehp541 _ _ (Or.inr (by omega))).trans hz470
                      have h545 : sf_rd hp541 69 14 = some z474.toInt := (ehp541 _ _ (Or.inr (by omega))).trans hz474
                      refine Ev.step (j := 6) (s' := ([some (.ref 69), some (.int z539)], [.ref 69], (0, 0), hp541)) rfl rfl ?_
                      refine Ev.step (j := 7) (s' := ([some (.ref 69), some (.int z539)], [.ref 69, .ref 69], (0, 0), hp541)) rfl rfl ?_
                      refine bs_getI 11 rfl rfl rfl Hhp541 (bs_R.uq Hhp541 (g := 11) rfl) (by decide) rfl fun z546 hz546 lz546 gz546 => ?_
                      refine bs_putIv (W := [(11, 16, 16)]) (g := 11) rfl rfl Hhp541 (bs_R.uq Hhp541 (g := 11) rfl) (by decide) rfl rfl rfl rfl (Or.inl rfl) (by omega) (by omega) fun hp547 Hhp547 fhp547 rhp547 ehp547 qhp547 nhp547 => ?_
                      have Fhp547 := sf_fr_tr Fhp541 (sf_fr_wider (W := [(11, 4, 4), (11, 11, 18), (11, 20, 20), (133, 0, 119), (135, 0, 0), (137, 0, 3)]) rfl fhp547)
                      have h548 : sf_rd hp547 72 0 = some z458.toInt := (ehp547 _ _ (Or.inl (by decide))).trans h542
                      have h549 : sf_rd hp547 69 18 = some (fnd s.nm 0 (s.h 0) (tok B n lim (i + 1)).v) := (ehp547 _ _ (Or.inr (by omega))).trans h543
                      have h550 : sf_rd hp547 69 11 = some z470.toInt := (ehp547 _ _ (Or.inr (by omega))).trans h544
                      have h551 : sf_rd hp547 69 14 = some z474.toInt := (ehp547 _ _ (Or.inr (by omega))).trans h545
                      have h552 : sf_rd hp547 69 15 = some z539.toInt := (ehp547 _ _ (Or.inr (by omega))).trans rhp541
                      have h553 : sf_rd hp547 69 12 = some z546.toInt := (ehp547 _ _ (Or.inr (by omega))).trans hz546
                      refine bs_lit (k := 0) rfl rfl fun z554 hz554 => ?_
                      refine bs_zret rfl rfl (by omega) (by omega) ?_
                      rw [← hQ540]
                      refine (show Ev _ 309 ([some (.ref 69), some (.int z449), some (.int z468), none], [.int z554], (0, 0), hp547) _ from ?_)
                      exact bs_zret rfl rfl (by omega) (by omega) (by rw [hQ]; exact ⟨thp460, Hhp547, Fhp547, bs_an0, sf_S_cons (sf_s1 (x := z554.toInt) rfl (by omega) (by omega)) (sf_S_nil), (fun _ => by
                              skip
                              rw [lnx_amt (by omega), show ((tok B n lim i).k - 66).toNat = 0 by omega]
                              show RRES _ _ _ _ _ (lold (tok B n lim) s 0 (s.h 0) (i + 1) _)
                              rw [lold_o Y1X464 (by omega)]
                              have K3 : (tok B n lim (i + 2)).k = 3 := rkk_2 (by have KK := RK_k K2X464 hz470; omega)
                              have VV := RK_v K2X464 K3 hz474
                              have N9 := tok_nok B n lim (i + 2) K3
                              rw [lnum_2 K3 (by omega)]
                              have PL : z546.toInt = (tok B n lim (i + 2)).pl := Option.some.inj (hz546.symm.trans (((ehp541 _ _ (Or.inr (by omega)))).trans (RK_pl K2X464)))
                              exact RRES_bad ⟨z554, rfl, by omega⟩ (h552.trans (congrArg some (by omega))) (rhp547.trans (congrArg some PL)))⟩)
                  · skip
                    refine Ev.step (j := 291) (s' := ([some (.ref 69), some (.int z449), some (.int z468), none], [.ref 69], (0, 0), hp460)) rfl rfl ?_
                    refine bs_lit (k := 1) rfl rfl fun z555 hz555 => ?_
                    refine Ev.inl (L := L_X11_bad) (nL := 2) rfl (bs_rcv (g := 11) Hhp460 (bs_R.uq Hhp460 (g := 11) rfl) (by decide) rfl) rfl (Nat.le_of_ble_eq_true rfl) ?_
                    generalize hQ556 : (fun (o : ab_O) => Ev _ _ _ _) = Q556
                    refine (show Ev (ab_T L_X11_bad) 0 ([some (.ref 69), some (.int z555)], [], (0, 0), hp460) Q556 from ?_)
                    refine Ev.step (j := 1) (s' := ([some (.ref 69), some (.int z555)], [.ref 69], (0, 0), hp460)) rfl rfl ?_
                    refine Ev.step (j := 2) (s' := ([some (.ref 69), some (.int z555)], [.int z555, .ref 69], (0, 0), hp460)) rfl rfl ?_
                    refine bs_putIv (W := [(11, 15, 15)]) (g := 11) rfl rfl Hhp460 (bs_R.uq Hhp460 (g := 11) rfl) (by decide) rfl rfl rfl rfl (Or.inl rfl) (by omega) (by omega) fun hp557 Hhp557 fhp557 rhp557 ehp557 qhp557 nhp557 => ?_
                    have Fhp557 := sf_fr_tr Fhp460 (sf_fr_wider (W := [(11, 4, 4), (11, 11, 18), (11, 20, 20), (133, 0, 119), (135, 0, 0), (137, 0, 3)]) rfl fhp557)
                    have h558 : sf_rd hp557 72 0 = some z458.toInt := (ehp557 _ _ (Or.inl (by decide))).trans h462
                    have h559 : sf_rd hp557 69 18 = some (fnd s.nm 0 (s.h 0) (tok B n lim (i + 1)).v) := (ehp557 _ _ (Or.inr (by omega))).trans Y3X464
                    have h560 : sf_rd hp557 69 11 = some z470.toInt := (ehp557 _ _ (Or.inr (by omega))).trans hz470
                    refine Ev.step (j := 6) (s' := ([some (.ref 69), some (.int z555)], [.ref 69], (0, 0), hp557)) rfl rfl ?_
                    refine Ev.step (j := 7) (s' := ([some (.ref 69), some (.int z555)], [.ref 69, .ref 69], (0, 0), hp557)) rfl rfl ?_
                    refine bs_getI 11 rfl rfl rfl Hhp557 (bs_R.uq Hhp557 (g := 11) rfl) (by decide) rfl fun z561 hz561 lz561 gz561 => ?_
                    refine bs_putIv (W := [(11, 16, 16)]) (g := 11) rfl rfl Hhp557 (bs_R.uq Hhp557 (g := 11) rfl) (by decide) rfl rfl rfl rfl (Or.inl rfl) (by omega) (by omega) fun hp562 Hhp562 fhp562 rhp562 ehp562 qhp562 nhp562 => ?_
                    have Fhp562 := sf_fr_tr Fhp557 (sf_fr_wider (W := [(11, 4, 4), (11, 11, 18), (11, 20, 20), (133, 0, 119), (135, 0, 0), (137, 0, 3)]) rfl fhp562)
                    have h563 : sf_rd hp562 72 0 = some z458.toInt := (ehp562 _ _ (Or.inl (by decide))).trans h558
                    have h564 : sf_rd hp562 69 18 = some (fnd s.nm 0 (s.h 0) (tok B n lim (i + 1)).v) := (ehp562 _ _ (Or.inr (by omega))).trans h559
                    have h565 : sf_rd hp562 69 11 = some z470.toInt := (ehp562 _ _ (Or.inr (by omega))).trans h560
                    have h566 : sf_rd hp562 69 15 = some z555.toInt := (ehp562 _ _ (Or.inr (by omega))).trans rhp557
                    have h567 : sf_rd hp562 69 12 = some z561.toInt := (ehp562 _ _ (Or.inr (by omega))).trans hz561
                    refine bs_lit (k := 0) rfl rfl fun z568 hz568 => ?_
                    refine bs_zret rfl rfl (by omega) (by omega) ?_
                    rw [← hQ556]
                    refine (show Ev _ 295 ([some (.ref 69), some (.int z449), some (.int z468), none], [.int z568], (0, 0), hp562) _ from ?_)
                    exact bs_zret rfl rfl (by omega) (by omega) (by rw [hQ]; exact ⟨thp460, Hhp562, Fhp562, bs_an0, sf_S_cons (sf_s1 (x := z568.toInt) rfl (by omega) (by omega)) (sf_S_nil), (fun _ => by
                            skip
                            rw [lnx_amt (by omega), show ((tok B n lim i).k - 66).toNat = 0 by omega]
                            show RRES _ _ _ _ _ (lold (tok B n lim) s 0 (s.h 0) (i + 1) _)
                            rw [lold_o Y1X464 (by omega)]
                            have K3 : (tok B n lim (i + 2)).k ≠ 3 := fun e => by have KK := RK_k K2X464 hz470; rw [e] at KK; have KK2 : _ = (2 : Int) := KK; omega
                            rw [lnum_1 K3]
                            have PL : z561.toInt = (tok B n lim (i + 2)).pl := Option.some.inj (hz561.symm.trans (((ehp557 _ _ (Or.inr (by omega)))).trans (RK_pl K2X464)))
                            exact RRES_bad ⟨z568, rfl, by omega⟩ (h566.trans (congrArg some (by omega))) (rhp562.trans (congrArg some PL)))⟩)
                · skip
                  have c569 : z461.toInt = 0 := by omega
                  refine bs_lit (k := 0) rfl rfl fun z570 hz570 => ?_
                  exact bs_zret rfl rfl (by omega) (by omega) (by rw [hQ]; exact ⟨thp460, Hhp460, Fhp460, bs_an0, sf_S_cons (sf_s1 (x := z570.toInt) rfl (by omega) (by omega)) (sf_S_nil), (fun _ => by
                          skip
                          rw [lnx_amt (by omega), show ((tok B n lim i).k - 66).toNat = 0 by omega]
                          show RRES _ _ _ _ _ (lold (tok B n lim) s 0 (s.h 0) (i + 1) _)
                          rcases X464.resolve_left (fun h => absurd h.1 (by omega)) with ⟨Y0, P1, ⟨P2, P3⟩ | ⟨⟨P2, P4⟩, P3⟩⟩
                          · rw [lold_1 P2]
                            exact RRES_bad ⟨z570, rfl, by omega⟩ P3 P1
                          · rw [lold_3 P2 (by omega)]
                            exact RRES_bad ⟨z570, rfl, by omega⟩ P3 P1)⟩)
              · exfalso; omega
          · skip
            refine Ev.step (j := 184) (s' := ([some (.ref 69), none, none, none], [.ref 69], (0, 0), hp29)) rfl rfl ?_
            refine bs_callp (K := kq_X11_readMisses_v) [.ref 69] [] rfl cp_X11_readMisses_v (⟨K32, S33, R34⟩) Hhp29 rfl rfl rfl (bs_rcv (g := 11) Hhp29 (bs_R.uq Hhp29 (g := 11) rfl) (by decide) rfl) rfl ?_ (sf_S_nil) fun r571 hp572 thp572 Hhp572 fhp572 ahp572 php572 xhp572 => ?_
            · intro q k h
              match q, h with
              | 0, h => cases h; exact bs_jR (bs_R.uq Hhp29 (g := 11) rfl)
              | q + 1, h => cases h
            obtain ⟨z573, rfl⟩ := bs_anI ahp572
            have rgz573 := n_range z573
            have Fhp572 := sf_fr_tr Fhp29 (sf_fr_wider (W := [(11, 4, 4), (11, 11, 18), (11, 20, 20), (133, 0, 119), (135, 0, 0), (137, 0, 3)]) rfl fhp572)
            obtain ⟨uz573, vz573⟩ := bs_s1 (x := z573.toInt) rfl (php572 _ (List.mem_of_getElem? (i := 0) rfl))
            refine (show Ev _ 187 ([some (.ref 69), none, none, none], [.int z573], (0, 0), hp572) _ from ?_)
            exact bs_zret rfl rfl (by omega) (by omega) (by rw [hQ]; exact ⟨thp572, Hhp572, Fhp572, bs_an0, sf_S_cons (sf_s1 (x := z573.toInt) rfl (by omega) (by omega)) (sf_S_nil), (fun _ => by
                    skip
                    rw [lnx_miss (by omega)]
                    exact xhp572 rfl)⟩)
        · skip
          have TG : (tok B n lim i).k = 70 := by omega
          refine Ev.step (j := 113) (s' := ([some (.ref 69), none, none, none], [.ref 69], (0, 0), hp20)) rfl rfl ?_
          refine bs_getU (g := 11) (g1 := 133) rfl rfl Hhp20 (bs_R.uq Hhp20 (g := 11) rfl) (by decide) rfl rfl ?_
          refine bs_lit (k := 1) rfl rfl fun z574 hz574 => ?_
          refine bs_ld (g := 133) 1 1 (0, 8) rfl Hhp20 (bs_R.uq Hhp20 (g := 133) rfl) (by decide) rfl (by decide) (by decide) rfl (by decide) (by omega) (by omega) fun z575 hz575 lz575 gz575 => ?_
          dsimp only at lz575 gz575
          replace hz575 := bs_at hz575 (show z574.toInt.toNat = 1 by omega)
          have c1_z575 : z575.toInt = s.h 1 := Option.some.inj (hz575.symm.trans (S24.1 1 (by decide)))
          obtain ⟨vh0, gh0, lh0, uh0⟩ := bs_elt (k := 0) 0 0 (0, 6) Hhp20 (bs_R.uq Hhp20 (g := 133) (p := 72) rfl) (by decide) (by decide) (by decide) rfl (by decide) (by decide) (by decide)
          dsimp only at lh0 uh0
          have eh0 : vh0 = s.h 0 := Option.some.inj (gh0.symm.trans (S24.1 0 (by decide)))
          refine Ev.step (j := 119) (s' := ([some (.ref 69), some (.int z575), none, none], [], (0, 0), hp20)) rfl rfl ?_
          refine Ev.step (j := 120) (s' := ([some (.ref 69), some (.int z575), none, none], [.int z575], (0, 0), hp20)) rfl rfl ?_
          refine bs_lit (k := 8) rfl rfl fun z576 hz576 => ?_
          refine bs_ne rfl (fun c577 => ?_) (fun c577 => ?_)
          · skip
            have G8 : ¬ 8 ≤ s.h 1 := by omega
            refine Ev.step (j := 132) (s' := ([some (.ref 69), some (.int z575), none, none], [.ref 69], (0, 0), hp20)) rfl rfl ?_
            refine bs_callx (K := kq_X11_next_v) [.ref 69] [] rfl ce_X11_next_v Hhp20 rfl rfl rfl (bs_rcv (g := 11) Hhp20 (bs_R.uq Hhp20 (g := 11) rfl) (by decide) rfl) rfl ?_ (sf_S_nil) fun r578 hp579 thp579 Hhp579 fhp579 ahp579 php579 xhp579 => ?_
            · intro q k h
              match q, h with
              | 0, h => cases h; exact bs_jR (bs_R.uq Hhp20 (g := 11) rfl)
              | q + 1, h => cases h
            obtain rfl := ahp579.1 rfl
            have Fhp579 := sf_fr_tr Fhp20 (sf_fr_wider (W := [(11, 4, 4), (11, 11, 18), (11, 20, 20), (133, 0, 119), (135, 0, 0), (137, 0, 3)]) rfl fhp579)
            have h580 : sf_rd hp579 72 1 = some z575.toInt := (fhp579.2.2.1 _ (bs_R.uq Hhp20 (g := 133) (p := 72) rfl).1 _ (by rw [(bs_R.uq Hhp20 (g := 133) (p := 72) rfl).2]; rfl)).trans hz575
            refine (show Ev _ 135 ([some (.ref 69), some (.int z575), none, none], [], (0, 0), hp579) _ from ?_)
            have K581 := (RK_next Hhp20 fhp579 rfl rfl rfl xhp579 K23).1
            have R582 := RES_fr Hhp20 fhp579 rfl R25
            have S583 := SR_fr Hhp20 fhp579 rfl rfl rfl rfl S24
            refine Ev.step (j := 136) (s' := ([some (.ref 69), some (.int z575), none, none], [.ref 69], (0, 0), hp579)) rfl rfl ?_
            refine bs_lit (k := 20) rfl rfl fun z584 hz584 => ?_
            refine Ev.step (j := 139) (s' := ([some (.ref 69), some (.int z575), none, none], [.int z575, .int z584, .ref 69], (0, 0), hp579)) rfl rfl ?_
            first | (refine bs_add rfl (by omega) (by omega) fun z585 hz585 => ?_) | (refine bs_any rfl fun z585 => ?_)
            have rz585 := n_range z585
            refine bs_callx (K := kq_X11_fresh_v) [.ref 69, .int z585] [] rfl ce_X11_fresh_v Hhp579 rfl rfl rfl (bs_rcv (g := 11) Hhp579 (bs_R.uq Hhp579 (g := 11) rfl) (by decide) rfl) rfl ?_ (sf_S_cons (sf_s1 (x := z585.toInt) rfl (by omega) (by omega)) (sf_S_nil)) fun r586 hp587 thp587 Hhp587 fhp587 ahp587 php587 xhp587 => ?_
            · intro q k h
              match q, h with
              | 0, h => cases h; exact bs_jR (bs_R.uq Hhp579 (g := 11) rfl)
              | 1, h => cases h; exact sf_j0
              | q + 2, h => cases h
            obtain ⟨z588, rfl⟩ := bs_anI ahp587
            have rgz588 := n_range z588
            have Fhp587 := sf_fr_tr Fhp579 (sf_fr_wider (W := [(11, 4, 4), (11, 11, 18), (11, 20, 20), (133, 0, 119), (135, 0, 0), (137, 0, 3)]) rfl fhp587)
            have h589 : sf_rd hp587 72 1 = some z575.toInt := (fhp587.2.2.1 _ (bs_R.uq Hhp579 (g := 133) (p := 72) rfl).1 _ (by rw [(bs_R.uq Hhp579 (g := 133) (p := 72) rfl).2]; rfl)).trans h580
            obtain ⟨uz588, vz588⟩ := bs_s1 (x := z588.toInt) rfl (php587 _ (List.mem_of_getElem? (i := 0) rfl))
            refine (show Ev _ 143 ([some (.ref 69), some (.int z575), none, none], [.int z588], (0, 0), hp587) _ from ?_)
            obtain ⟨q590, rq590, X591⟩ := xhp587 _ s B n lim (i + 1) rfl S583 R582 K581
            obtain rfl := Value.int.inj (Option.some.inj rq590)
            refine bs_ifeq rfl (fun c592 => ?_) (fun c592 => ?_)
            · skip
              have c593 : z588.toInt = 0 := by omega
              refine bs_lit (k := 0) rfl rfl fun z594 hz594 => ?_
              exact bs_zret rfl rfl (by omega) (by omega) (by rw [hQ]; exact ⟨thp587, Hhp587, Fhp587, bs_an0, sf_S_cons (sf_s1 (x := z594.toInt) rfl (by omega) (by omega)) (sf_S_nil), (fun _ => by
                      skip
                      rw [lnx_man TG]
                      rw [show lnMan (tok B n lim) s i = _ from if_neg G8]
                      rcases X591.resolve_left (fun h => absurd h.1 (by omega)) with ⟨Y0, P1, ⟨P2, P3⟩ | ⟨⟨P2, P4⟩, P3⟩⟩
                      · rw [lnew_1 P2]
                        exact RRES_bad ⟨z594, rfl, by omega⟩ P3 P1
                      · rw [lnew_3 P2 P4]
                        exact RRES_bad ⟨z594, rfl, by omega⟩ P3 P1)⟩)
            · skip
              obtain ⟨F0, F1, F2, F3, F4, F5⟩ := X591.resolve_right (fun h => absurd h.1 (by omega))
              refine Ev.step (j := 147) (s' := ([some (.ref 69), some (.int z575), none, none], [.ref 69], (0, 0), hp587)) rfl rfl ?_
              refine bs_lit (k := 52) rfl rfl fun z595 hz595 => ?_
              refine Ev.step (j := 150) (s' := ([some (.ref 69), some (.int z575), none, none], [.int z575, .int z595, .ref 69], (0, 0), hp587)) rfl rfl ?_
              first | (refine bs_add rfl (by omega) (by omega) fun z596 hz596 => ?_) | (refine bs_any rfl fun z596 => ?_)
              have rz596 := n_range z596
              refine bs_lit (k := 0) rfl rfl fun z597 hz597 => ?_
              refine bs_lit (k := 1) rfl rfl fun z598 hz598 => ?_
              refine bs_callx (K := kq_X11_puts_v1) [.ref 69, .int z596, .int z597, .int z598] [] rfl ce_X11_puts_v1 Hhp587 rfl rfl rfl (bs_rcv (g := 11) Hhp587 (bs_R.uq Hhp587 (g := 11) rfl) (by decide) rfl) rfl ?_ (sf_S_cons (sf_s1 (x := z596.toInt) rfl (by omega) (by omega)) (sf_S_cons (sf_s1 (x := z597.toInt) rfl (by omega) (by omega)) (sf_S_cons (sf_s1 (x := z598.toInt) rfl (by omega) (by omega)) (sf_S_nil)))) fun r599 hp600 thp600 Hhp600 fhp600 ahp600 php600 xhp600 => ?_
              · intro q k h
                match q, h with
                | 0, h => cases h; exact bs_jR (bs_R.uq Hhp587 (g := 11) rfl)
                | 1, h => cases h; exact sf_j0
                | 2, h => cases h; exact sf_j0
                | 3, h => cases h; exact sf_j0
                | q + 4, h => cases h
              obtain ⟨z601, rfl⟩ := bs_anI ahp600
              have rgz601 := n_range z601
              have Fhp600 := sf_fr_tr Fhp587 (sf_fr_wider (W := [(11, 4, 4), (11, 11, 18), (11, 20, 20), (133, 0, 119), (135, 0, 0), (137, 0, 3)]) rfl fhp600)
              have h602 : sf_rd hp600 72 1 = some z575.toInt := (fhp600.2.2.1 _ (bs_R.uq Hhp587 (g := 133) (p := 72) rfl).1 _ (by rw [(bs_R.uq Hhp587 (g := 133) (p := 72) rfl).2]; rfl)).trans h589
              obtain ⟨uz601, vz601⟩ := bs_s1 (x := z601.toInt) rfl (php600 _ (List.mem_of_getElem? (i := 0) rfl))
              refine (show Ev _ 156 ([some (.ref 69), some (.int z575), none, none], [.int z601], (0, 0), hp600) _ from ?_)
              obtain ⟨q603, rq603, X604⟩ := xhp600 _ _ _ B n lim (i + 2) rfl F3
              obtain rfl := Value.int.inj (Option.some.inj rq603)
              refine bs_ifne rfl (fun c605 => ?_) (fun c605 => ?_)
              · skip
                refine Ev.step (j := 162) (s' := ([some (.ref 69), some (.int z575), none, none], [.ref 69], (0, 0), hp600)) rfl rfl ?_
                refine bs_getU (g := 11) (g1 := 133) rfl rfl Hhp600 (bs_R.uq Hhp600 (g := 11) rfl) (by decide) rfl rfl ?_
                refine bs_lit (k := 1) rfl rfl fun z606 hz606 => ?_
                refine Ev.step (j := 167) (s' := ([some (.ref 69), some (.int z575), none, none], [.int z606, .ref 72, .int z606, .ref 72], (0, 0), hp600)) rfl rfl ?_
                refine bs_ld (g := 133) 1 1 (0, 8) rfl Hhp600 (bs_R.uq Hhp600 (g := 133) rfl) (by decide) rfl (by decide) (by decide) rfl (by decide) (by omega) (by omega) fun z607 hz607 lz607 gz607 => ?_
                dsimp only at lz607 gz607
                replace hz607 := bs_at hz607 (show z606.toInt.toNat = 1 by omega)
                have e608 : z607.toInt = z575.toInt := Option.some.inj (hz607.symm.trans h602)
                refine bs_lit (k := 1) rfl rfl fun z609 hz609 => ?_
                first | (refine bs_add rfl (by omega) (by omega) fun z610 hz610 => ?_) | (refine bs_any rfl fun z610 => ?_)
                have rz610 := n_range z610
                refine bs_stv (W := [(133, 1, 1)]) (g := 133) 1 1 (0, 8) rfl Hhp600 (bs_R.uq Hhp600 (g := 133) rfl) (by decide) rfl rfl (by decide) rfl rfl (by omega) (by omega) (by dsimp only; omega) (by dsimp only; omega) fun hp611 Hhp611 fhp611 rhp611 ehp611 qhp611 nhp611 => ?_
                replace rhp611 := bs_at rhp611 (show z606.toInt.toNat = 1 by omega)
                have Fhp611 := sf_fr_tr Fhp600 (sf_fr_wider (W := [(11, 4, 4), (11, 11, 18), (11, 20, 20), (133, 0, 119), (135, 0, 0), (137, 0, 3)]) rfl fhp611)
                refine bs_lit (k := 1) rfl rfl fun z612 hz612 => ?_
                exact bs_zret rfl rfl (by omega) (by omega) (by rw [hQ]; exact ⟨thp600, Hhp611, Fhp611, bs_an0, sf_S_cons (sf_s1 (x := z612.toInt) rfl (by omega) (by omega)) (sf_S_nil), (fun _ => by
                        skip
                        rw [lnx_man TG]
                        rw [show lnMan (tok B n lim) s i = _ from if_neg G8]
                        obtain ⟨Y0, Y1, Y2, Y3, Y4, Y5⟩ := X591.resolve_right (fun h => absurd h.1 (by omega))
                        rw [lnew_o Y1 Y2]
                        obtain ⟨V0, V1, V2, V3, V4, V5, V6⟩ := X604.resolve_right (fun h => absurd h.1 (by omega))
                        rw [lnum_o V1 (by omega) (by omega)]
                        have EP : z585.toInt.toNat = 20 + (s.h 1).toNat := by omega
                        rw [EP] at Y4 Y5
                        have EQ : z596.toInt.toNat = 52 + (s.h 1).toNat := by omega
                        rw [EQ] at V4 V5
                        exact RRES_ok ⟨z612, rfl, by omega⟩ (SR_man S583 (by omega) (by omega) (by omega) (by omega) (rhp611.trans (congrArg some (by omega))) ((ehp611 _ _ (Or.inr (by omega))).trans V4) (fun q h1 h2 => (ehp611 _ _ (Or.inr (by omega))).trans ((V5 q h2).trans ((fhp587.2.2.1 _ (bs_R.uq Hhp579 (g := 133) (p := 72) rfl).1 _ (by rw [(bs_R.uq Hhp579 (g := 133) (p := 72) rfl).2]; rfl))))) (((ehp611 _ _ (Or.inl (by decide))).trans ((fhp600.2.2.1 _ (bs_R.uq Hhp587 (g := 11) (p := 69) rfl).1 _ (by rw [(bs_R.uq Hhp587 (g := 11) (p := 69) rfl).2]; rfl)).trans (fhp587.2.2.1 _ (bs_R.uq Hhp579 (g := 11) (p := 69) rfl).1 _ (by rw [(bs_R.uq Hhp579 (g := 11) (p := 69) rfl).2]; rfl))))) (((fhp611.2.2.2.1 _ (bs_R.uq Hhp600 (g := 137) rfl).1 (by rw [(bs_R.uq Hhp600 (g := 137) rfl).2]; rfl)).trans ((fhp600.2.2.2.1 _ (bs_R.uq Hhp587 (g := 137) (p := 76) rfl).1 (by rw [(bs_R.uq Hhp587 (g := 137) (p := 76) rfl).2]; rfl)).trans (fhp587.2.2.2.1 _ (bs_R.uq Hhp579 (g := 137) (p := 76) rfl).1 (by rw [(bs_R.uq Hhp579 (g := 137) (p := 76) rfl).2]; rfl))))) (by obtain ⟨wq, g1, g2⟩ := Y4; exact ⟨wq, (((nhp611 _ _).trans (sf_rl_cell (fhp600.2.2.2.1 _ (bs_R.uq Hhp587 (g := 135) (p := 74) rfl).1 (by rw [(bs_R.uq Hhp587 (g := 135) (p := 74) rfl).2]; rfl))))).trans g1, g2⟩) (fun q hq => (((nhp611 _ _).trans (sf_rl_cell (fhp600.2.2.2.1 _ (bs_R.uq Hhp587 (g := 135) (p := 74) rfl).1 (by rw [(bs_R.uq Hhp587 (g := 135) (p := 74) rfl).2]; rfl))))).trans (Y5 q hq))) (RK_keep Hhp600 fhp611 rfl rfl (nhp611 _ _) V6))⟩)
              · skip
                have c613 : z601.toInt = 0 := by omega
                refine bs_lit (k := 0) rfl rfl fun z614 hz614 => ?_
                exact bs_zret rfl rfl (by omega) (by omega) (by rw [hQ]; exact ⟨thp600, Hhp600, Fhp600, bs_an0, sf_S_cons (sf_s1 (x := z614.toInt) rfl (by omega) (by omega)) (sf_S_nil), (fun _ => by
                        skip
                        rw [lnx_man TG]
                        rw [show lnMan (tok B n lim) s i = _ from if_neg G8]
                        obtain ⟨Y0, Y1, Y2, Y3, Y4, Y5⟩ := X591.resolve_right (fun h => absurd h.1 (by omega))
                        rw [lnew_o Y1 Y2]
                        rcases X604.resolve_left (fun h => absurd h.1 (by omega)) with ⟨Y0, P1, ⟨P2, P3⟩ | ⟨⟨P2, P4⟩, P3⟩⟩
                        · rw [lnum_1 P2]
                          exact RRES_bad ⟨z614, rfl, by omega⟩ P3 P1
                        · rw [lnum_2 P2 (by omega)]
                          exact RRES_bad ⟨z614, rfl, by omega⟩ P3 P1)⟩)
          · skip
            have c615 : z575.toInt = 8 := by omega
            refine Ev.step (j := 126) (s' := ([some (.ref 69), some (.int z575), none, none], [.ref 69], (0, 0), hp20)) rfl rfl ?_
            refine bs_lit (k := 4) rfl rfl fun z616 hz616 => ?_
            refine Ev.inl (L := L_X11_bad) (nL := 2) rfl (bs_rcv (g := 11) Hhp20 (bs_R.uq Hhp20 (g := 11) rfl) (by decide) rfl) rfl (Nat.le_of_ble_eq_true rfl) ?_
            generalize hQ617 : (fun (o : ab_O) => Ev _ _ _ _) = Q617
            refine (show Ev (ab_T L_X11_bad) 0 ([some (.ref 69), some (.int z616)], [], (0, 0), hp20) Q617 from ?_)
            refine Ev.step (j := 1) (s' := ([some (.ref 69), some (.int z616)], [.ref 69], (0, 0), hp20)) rfl rfl ?_
            refine Ev.step (j := 2) (s' := ([some (.ref 69), some (.int z616)], [.int z616, .ref 69], (0, 0), hp20)) rfl rfl ?_
            refine bs_putIv (W := [(11, 15, 15)]) (g := 11) rfl rfl Hhp20 (bs_R.uq Hhp20 (g := 11) rfl) (by decide) rfl rfl rfl rfl (Or.inl rfl) (by omega) (by omega) fun hp618 Hhp618 fhp618 rhp618 ehp618 qhp618 nhp618 => ?_
            have Fhp618 := sf_fr_tr Fhp20 (sf_fr_wider (W := [(11, 4, 4), (11, 11, 18), (11, 20, 20), (133, 0, 119), (135, 0, 0), (137, 0, 3)]) rfl fhp618)
            have h619 : sf_rd hp618 72 1 = some z575.toInt := (ehp618 _ _ (Or.inl (by decide))).trans hz575
            refine Ev.step (j := 6) (s' := ([some (.ref 69), some (.int z616)], [.ref 69], (0, 0), hp618)) rfl rfl ?_
            refine Ev.step (j := 7) (s' := ([some (.ref 69), some (.int z616)], [.ref 69, .ref 69], (0, 0), hp618)) rfl rfl ?_
            refine bs_getI 11 rfl rfl rfl Hhp618 (bs_R.uq Hhp618 (g := 11) rfl) (by decide) rfl fun z620 hz620 lz620 gz620 => ?_
            refine bs_putIv (W := [(11, 16, 16)]) (g := 11) rfl rfl Hhp618 (bs_R.uq Hhp618 (g := 11) rfl) (by decide) rfl rfl rfl rfl (Or.inl rfl) (by omega) (by omega) fun hp621 Hhp621 fhp621 rhp621 ehp621 qhp621 nhp621 => ?_
            have Fhp621 := sf_fr_tr Fhp618 (sf_fr_wider (W := [(11, 4, 4), (11, 11, 18), (11, 20, 20), (133, 0, 119), (135, 0, 0), (137, 0, 3)]) rfl fhp621)
            have h622 : sf_rd hp621 72 1 = some z575.toInt := (ehp621 _ _ (Or.inl (by decide))).trans h619
            have h623 : sf_rd hp621 69 15 = some z616.toInt := (ehp621 _ _ (Or.inr (by omega))).trans rhp618
            have h624 : sf_rd hp621 69 12 = some z620.toInt := (ehp621 _ _ (Or.inr (by omega))).trans hz620
            refine bs_lit (k := 0) rfl rfl fun z625 hz625 => ?_
            refine bs_zret rfl rfl (by omega) (by omega) ?_
            rw [← hQ617]
            refine (show Ev _ 130 ([some (.ref 69), some (.int z575), none, none], [.int z625], (0, 0), hp621) _ from ?_)
            exact bs_zret rfl rfl (by omega) (by omega) (by rw [hQ]; exact ⟨thp20, Hhp621, Fhp621, bs_an0, sf_S_cons (sf_s1 (x := z625.toInt) rfl (by omega) (by omega)) (sf_S_nil), (fun _ => by
                    skip
                    rw [lnx_man TG]
                    rw [show lnMan (tok B n lim) s i = _ from if_pos (by omega)]
                    have PL : z620.toInt = (tok B n lim i).pl := Option.some.inj (hz620.symm.trans (((ehp618 _ _ (Or.inr (by omega)))).trans (RK_pl K23)))
                    exact RRES_bad ⟨z625, rfl, by omega⟩ (h623.trans (congrArg some (by omega))) (rhp621.trans (congrArg some PL)))⟩)
      · skip
        have TG : (tok B n lim i).k = 65 := by omega
        refine Ev.step (j := 52) (s' := ([some (.ref 69), none, none, none], [.ref 69], (0, 0), hp11)) rfl rfl ?_
        refine bs_getU (g := 11) (g1 := 133) rfl rfl Hhp11 (bs_R.uq Hhp11 (g := 11) rfl) (by decide) rfl rfl ?_
        refine bs_lit (k := 0) rfl rfl fun z626 hz626 => ?_
        refine bs_ld (g := 133) 0 0 (0, 6) rfl Hhp11 (bs_R.uq Hhp11 (g := 133) rfl) (by decide) rfl (by decide) (by decide) rfl (by decide) (by omega) (by omega) fun z627 hz627 lz627 gz627 => ?_
        dsimp only at lz627 gz627
        replace hz627 := bs_at hz627 (show z626.toInt.toNat = 0 by omega)
        have c0_z627 : z627.toInt = s.h 0 := Option.some.inj (hz627.symm.trans (S15.1 0 (by decide)))
        refine bs_lit (k := 6) rfl rfl fun z628 hz628 => ?_
        refine bs_ne rfl (fun c629 => ?_) (fun c629 => ?_)
        · skip
          have G6 : ¬ 6 ≤ s.h 0 := by omega
          refine Ev.step (j := 69) (s' := ([some (.ref 69), none, none, none], [.ref 69], (0, 0), hp11)) rfl rfl ?_
          refine bs_callx (K := kq_X11_next_v) [.ref 69] [] rfl ce_X11_next_v Hhp11 rfl rfl rfl (bs_rcv (g := 11) Hhp11 (bs_R.uq Hhp11 (g := 11) rfl) (by decide) rfl) rfl ?_ (sf_S_nil) fun r630 hp631 thp631 Hhp631 fhp631 ahp631 php631 xhp631 => ?_
          · intro q k h
            match q, h with
            | 0, h => cases h; exact bs_jR (bs_R.uq Hhp11 (g := 11) rfl)
            | q + 1, h => cases h
          obtain rfl := ahp631.1 rfl
          have Fhp631 := sf_fr_tr Fhp11 (sf_fr_wider (W := [(11, 4, 4), (11, 11, 18), (11, 20, 20), (133, 0, 119), (135, 0, 0), (137, 0, 3)]) rfl fhp631)
          have h632 : sf_rd hp631 72 0 = some z627.toInt := (fhp631.2.2.1 _ (bs_R.uq Hhp11 (g := 133) (p := 72) rfl).1 _ (by rw [(bs_R.uq Hhp11 (g := 133) (p := 72) rfl).2]; rfl)).trans hz627
          refine (show Ev _ 72 ([some (.ref 69), none, none, none], [], (0, 0), hp631) _ from ?_)
          have K633 := (RK_next Hhp11 fhp631 rfl rfl rfl xhp631 K14).1
          have R634 := RES_fr Hhp11 fhp631 rfl R16
          have S635 := SR_fr Hhp11 fhp631 rfl rfl rfl rfl S15
          refine Ev.step (j := 73) (s' := ([some (.ref 69), none, none, none], [.ref 69], (0, 0), hp631)) rfl rfl ?_
          refine bs_lit (k := 14) rfl rfl fun z636 hz636 => ?_
          refine Ev.step (j := 76) (s' := ([some (.ref 69), none, none, none], [.ref 69, .int z636, .ref 69], (0, 0), hp631)) rfl rfl ?_
          refine bs_getU (g := 11) (g1 := 133) rfl rfl Hhp631 (bs_R.uq Hhp631 (g := 11) rfl) (by decide) rfl rfl ?_
          refine bs_lit (k := 0) rfl rfl fun z637 hz637 => ?_
          refine bs_ld (g := 133) 0 0 (0, 6) rfl Hhp631 (bs_R.uq Hhp631 (g := 133) rfl) (by decide) rfl (by decide) (by decide) rfl (by decide) (by omega) (by omega) fun z638 hz638 lz638 gz638 => ?_
          dsimp only at lz638 gz638
          replace hz638 := bs_at hz638 (show z637.toInt.toNat = 0 by omega)
          have e639 : z638.toInt = z627.toInt := Option.some.inj (hz638.symm.trans h632)
          have c0_z627 : z627.toInt = s.h 0 := Option.some.inj (h632.symm.trans (S635.1 0 (by decide)))
          first | (refine bs_add rfl (by omega) (by omega) fun z640 hz640 => ?_) | (refine bs_any rfl fun z640 => ?_)
          have rz640 := n_range z640
          refine bs_callx (K := kq_X11_fresh_v) [.ref 69, .int z640] [] rfl ce_X11_fresh_v Hhp631 rfl rfl rfl (bs_rcv (g := 11) Hhp631 (bs_R.uq Hhp631 (g := 11) rfl) (by decide) rfl) rfl ?_ (sf_S_cons (sf_s1 (x := z640.toInt) rfl (by omega) (by omega)) (sf_S_nil)) fun r641 hp642 thp642 Hhp642 fhp642 ahp642 php642 xhp642 => ?_
          · intro q k h
            match q, h with
            | 0, h => cases h; exact bs_jR (bs_R.uq Hhp631 (g := 11) rfl)
            | 1, h => cases h; exact sf_j0
            | q + 2, h => cases h
          obtain ⟨z643, rfl⟩ := bs_anI ahp642
          have rgz643 := n_range z643
          have Fhp642 := sf_fr_tr Fhp631 (sf_fr_wider (W := [(11, 4, 4), (11, 11, 18), (11, 20, 20), (133, 0, 119), (135, 0, 0), (137, 0, 3)]) rfl fhp642)
          have h644 : sf_rd hp642 72 0 = some z627.toInt := (fhp642.2.2.1 _ (bs_R.uq Hhp631 (g := 133) (p := 72) rfl).1 _ (by rw [(bs_R.uq Hhp631 (g := 133) (p := 72) rfl).2]; rfl)).trans h632
          obtain ⟨uz643, vz643⟩ := bs_s1 (x := z643.toInt) rfl (php642 _ (List.mem_of_getElem? (i := 0) rfl))
          refine (show Ev _ 85 ([some (.ref 69), none, none, none], [.int z643], (0, 0), hp642) _ from ?_)
          obtain ⟨q645, rq645, X646⟩ := xhp642 _ s B n lim (i + 1) rfl S635 R634 K633
          obtain rfl := Value.int.inj (Option.some.inj rq645)
          refine bs_ifne rfl (fun c647 => ?_) (fun c647 => ?_)
          · skip
            refine Ev.step (j := 91) (s' := ([some (.ref 69), none, none, none], [.ref 69], (0, 0), hp642)) rfl rfl ?_
            refine bs_getU (g := 11) (g1 := 133) rfl rfl Hhp642 (bs_R.uq Hhp642 (g := 11) rfl) (by decide) rfl rfl ?_
            refine bs_lit (k := 0) rfl rfl fun z648 hz648 => ?_
            refine Ev.step (j := 96) (s' := ([some (.ref 69), none, none, none], [.int z648, .ref 72, .int z648, .ref 72], (0, 0), hp642)) rfl rfl ?_
            refine bs_ld (g := 133) 0 0 (0, 6) rfl Hhp642 (bs_R.uq Hhp642 (g := 133) rfl) (by decide) rfl (by decide) (by decide) rfl (by decide) (by omega) (by omega) fun z649 hz649 lz649 gz649 => ?_
            dsimp only at lz649 gz649
            replace hz649 := bs_at hz649 (show z648.toInt.toNat = 0 by omega)
            have e650 : z649.toInt = z627.toInt := Option.some.inj (hz649.symm.trans h644)
            refine bs_lit (k := 1) rfl rfl fun z651 hz651 => ?_
            first | (refine bs_add rfl (by omega) (by omega) fun z652 hz652 => ?_) | (refine bs_any rfl fun z652 => ?_)
            have rz652 := n_range z652
            refine bs_stv (W := [(133, 0, 0)]) (g := 133) 0 0 (0, 6) rfl Hhp642 (bs_R.uq Hhp642 (g := 133) rfl) (by decide) rfl rfl (by decide) rfl rfl (by omega) (by omega) (by dsimp only; omega) (by dsimp only; omega) fun hp653 Hhp653 fhp653 rhp653 ehp653 qhp653 nhp653 => ?_
            replace rhp653 := bs_at rhp653 (show z648.toInt.toNat = 0 by omega)
            have Fhp653 := sf_fr_tr Fhp642 (sf_fr_wider (W := [(11, 4, 4), (11, 11, 18), (11, 20, 20), (133, 0, 119), (135, 0, 0), (137, 0, 3)]) rfl fhp653)
            refine bs_lit (k := 1) rfl rfl fun z654 hz654 => ?_
            exact bs_zret rfl rfl (by omega) (by omega) (by rw [hQ]; exact ⟨thp642, Hhp653, Fhp653, bs_an0, sf_S_cons (sf_s1 (x := z654.toInt) rfl (by omega) (by omega)) (sf_S_nil), (fun _ => by
                    skip
                    rw [lnx_good TG]
                    rw [show lnGood (tok B n lim) s i = _ from if_neg G6]
                    obtain ⟨Y0, Y1, Y2, Y3, Y4, Y5⟩ := X646.resolve_right (fun h => absurd h.1 (by omega))
                    rw [lnew_o Y1 Y2]
                    have EP : z640.toInt.toNat = 14 + (s.h 0).toNat := by omega
                    rw [EP] at Y4 Y5
                    exact RRES_ok ⟨z654, rfl, by omega⟩ (SR_good S635 (by omega) (by omega) (rhp653.trans (congrArg some (by omega))) (fun q hq => ((ehp653 _ _ (Or.inr (by omega))).trans (fhp642.2.2.1 _ (bs_R.uq Hhp631 (g := 133) (p := 72) rfl).1 _ (by rw [(bs_R.uq Hhp631 (g := 133) (p := 72) rfl).2]; rfl)))) (((ehp653 _ _ (Or.inl (by decide))).trans (fhp642.2.2.1 _ (bs_R.uq Hhp631 (g := 11) (p := 69) rfl).1 _ (by rw [(bs_R.uq Hhp631 (g := 11) (p := 69) rfl).2]; rfl)))) (((fhp653.2.2.2.1 _ (bs_R.uq Hhp642 (g := 137) rfl).1 (by rw [(bs_R.uq Hhp642 (g := 137) rfl).2]; rfl)).trans (fhp642.2.2.2.1 _ (bs_R.uq Hhp631 (g := 137) (p := 76) rfl).1 (by rw [(bs_R.uq Hhp631 (g := 137) (p := 76) rfl).2]; rfl)))) (by obtain ⟨wq, g1, g2⟩ := Y4; exact ⟨wq, (nhp653 _ _).trans g1, g2⟩) (fun q hq => (nhp653 _ _).trans (Y5 q hq))) (RK_keep Hhp642 fhp653 rfl rfl (nhp653 _ _) Y3))⟩)
          · skip
            have c655 : z643.toInt = 0 := by omega
            refine bs_lit (k := 0) rfl rfl fun z656 hz656 => ?_
            exact bs_zret rfl rfl (by omega) (by omega) (by rw [hQ]; exact ⟨thp642, Hhp642, Fhp642, bs_an0, sf_S_cons (sf_s1 (x := z656.toInt) rfl (by omega) (by omega)) (sf_S_nil), (fun _ => by
                    skip
                    rw [lnx_good TG]
                    rw [show lnGood (tok B n lim) s i = _ from if_neg G6]
                    rcases X646.resolve_left (fun h => absurd h.1 (by omega)) with ⟨Y0, P1, ⟨P2, P3⟩ | ⟨⟨P2, P4⟩, P3⟩⟩
                    · rw [lnew_1 P2]
                      exact RRES_bad ⟨z656, rfl, by omega⟩ P3 P1
                    · rw [lnew_3 P2 P4]
                      exact RRES_bad ⟨z656, rfl, by omega⟩ P3 P1)⟩)
        · skip
          have c657 : z627.toInt = 6 := by omega
          refine Ev.step (j := 63) (s' := ([some (.ref 69), none, none, none], [.ref 69], (0, 0), hp11)) rfl rfl ?_
          refine bs_lit (k := 4) rfl rfl fun z658 hz658 => ?_
          refine Ev.inl (L := L_X11_bad) (nL := 2) rfl (bs_rcv (g := 11) Hhp11 (bs_R.uq Hhp11 (g := 11) rfl) (by decide) rfl) rfl (Nat.le_of_ble_eq_true rfl) ?_
          generalize hQ659 : (fun (o : ab_O) => Ev _ _ _ _) = Q659
          refine (show Ev (ab_T L_X11_bad) 0 ([some (.ref 69), some (.int z658)], [], (0, 0), hp11) Q659 from ?_)
          refine Ev.step (j := 1) (s' := ([some (.ref 69), some (.int z658)], [.ref 69], (0, 0), hp11)) rfl rfl ?_
          refine Ev.step (j := 2) (s' := ([some (.ref 69), some (.int z658)], [.int z658, .ref 69], (0, 0), hp11)) rfl rfl ?_
          refine bs_putIv (W := [(11, 15, 15)]) (g := 11) rfl rfl Hhp11 (bs_R.uq Hhp11 (g := 11) rfl) (by decide) rfl rfl rfl rfl (Or.inl rfl) (by omega) (by omega) fun hp660 Hhp660 fhp660 rhp660 ehp660 qhp660 nhp660 => ?_
          have Fhp660 := sf_fr_tr Fhp11 (sf_fr_wider (W := [(11, 4, 4), (11, 11, 18), (11, 20, 20), (133, 0, 119), (135, 0, 0), (137, 0, 3)]) rfl fhp660)
          have h661 : sf_rd hp660 72 0 = some z627.toInt := (ehp660 _ _ (Or.inl (by decide))).trans hz627
          refine Ev.step (j := 6) (s' := ([some (.ref 69), some (.int z658)], [.ref 69], (0, 0), hp660)) rfl rfl ?_
          refine Ev.step (j := 7) (s' := ([some (.ref 69), some (.int z658)], [.ref 69, .ref 69], (0, 0), hp660)) rfl rfl ?_
          refine bs_getI 11 rfl rfl rfl Hhp660 (bs_R.uq Hhp660 (g := 11) rfl) (by decide) rfl fun z662 hz662 lz662 gz662 => ?_
          refine bs_putIv (W := [(11, 16, 16)]) (g := 11) rfl rfl Hhp660 (bs_R.uq Hhp660 (g := 11) rfl) (by decide) rfl rfl rfl rfl (Or.inl rfl) (by omega) (by omega) fun hp663 Hhp663 fhp663 rhp663 ehp663 qhp663 nhp663 => ?_
          have Fhp663 := sf_fr_tr Fhp660 (sf_fr_wider (W := [(11, 4, 4), (11, 11, 18), (11, 20, 20), (133, 0, 119), (135, 0, 0), (137, 0, 3)]) rfl fhp663)
          have h664 : sf_rd hp663 72 0 = some z627.toInt := (ehp663 _ _ (Or.inl (by decide))).trans h661
          have h665 : sf_rd hp663 69 15 = some z658.toInt := (ehp663 _ _ (Or.inr (by omega))).trans rhp660
          have h666 : sf_rd hp663 69 12 = some z662.toInt := (ehp663 _ _ (Or.inr (by omega))).trans hz662
          refine bs_lit (k := 0) rfl rfl fun z667 hz667 => ?_
          refine bs_zret rfl rfl (by omega) (by omega) ?_
          rw [← hQ659]
          refine (show Ev _ 67 ([some (.ref 69), none, none, none], [.int z667], (0, 0), hp663) _ from ?_)
          exact bs_zret rfl rfl (by omega) (by omega) (by rw [hQ]; exact ⟨thp11, Hhp663, Fhp663, bs_an0, sf_S_cons (sf_s1 (x := z667.toInt) rfl (by omega) (by omega)) (sf_S_nil), (fun _ => by
                  skip
                  rw [lnx_good TG]
                  rw [show lnGood (tok B n lim) s i = _ from if_pos (by omega)]
                  have PL : z662.toInt = (tok B n lim i).pl := Option.some.inj (hz662.symm.trans (((ehp660 _ _ (Or.inr (by omega)))).trans (RK_pl K14)))
                  exact RRES_bad ⟨z667, rfl, by omega⟩ (h665.trans (congrArg some (by omega))) (rhp663.trans (congrArg some PL)))⟩)
    · skip
      refine Ev.step (j := 11) (s' := ([some (.ref 69), none, none, none], [.ref 69], (0, 0), hp2)) rfl rfl ?_
      refine bs_getI 11 rfl rfl rfl Hhp2 (bs_R.uq Hhp2 (g := 11) rfl) (by decide) rfl fun z668 hz668 lz668 gz668 => ?_
      refine bs_ifeq rfl (fun c669 => ?_) (fun c669 => ?_)
      · skip
        have c670 : z668.toInt = 0 := by omega
        refine Ev.step (j := 24) (s' := ([some (.ref 69), none, none, none], [.ref 69], (0, 0), hp2)) rfl rfl ?_
        refine bs_lit (k := 1) rfl rfl fun z671 hz671 => ?_
        refine bs_putIv (W := [(11, 20, 20)]) (g := 11) rfl rfl Hhp2 (bs_R.uq Hhp2 (g := 11) rfl) (by decide) rfl rfl rfl rfl (Or.inr ⟨rfl, by omega, by omega⟩) (by omega) (by omega) fun hp672 Hhp672 fhp672 rhp672 ehp672 qhp672 nhp672 => ?_
        have Fhp672 := sf_fr_tr Fhp2 (sf_fr_wider (W := [(11, 4, 4), (11, 11, 18), (11, 20, 20), (133, 0, 119), (135, 0, 0), (137, 0, 3)]) rfl fhp672)
        have K673 := RK_keep Hhp2 fhp672 rfl rfl (nhp672 _ _) K5
        have R674 := RES_fr Hhp2 fhp672 rfl R7
        refine Ev.step (j := 29) (s' := ([some (.ref 69), none, none, none], [.ref 69], (0, 0), hp672)) rfl rfl ?_
        refine bs_callx (K := kq_X11_next_v) [.ref 69] [] rfl ce_X11_next_v Hhp672 rfl rfl rfl (bs_rcv (g := 11) Hhp672 (bs_R.uq Hhp672 (g := 11) rfl) (by decide) rfl) rfl ?_ (sf_S_nil) fun r675 hp676 thp676 Hhp676 fhp676 ahp676 php676 xhp676 => ?_
        · intro q k h
          match q, h with
          | 0, h => cases h; exact bs_jR (bs_R.uq Hhp672 (g := 11) rfl)
          | q + 1, h => cases h
        obtain rfl := ahp676.1 rfl
        have Fhp676 := sf_fr_tr Fhp672 (sf_fr_wider (W := [(11, 4, 4), (11, 11, 18), (11, 20, 20), (133, 0, 119), (135, 0, 0), (137, 0, 3)]) rfl fhp676)
        have h677 : sf_rd hp676 69 20 = some z671.toInt := (fhp676.2.2.1 _ (bs_R.uq Hhp672 (g := 11) (p := 69) rfl).1 _ (by rw [(bs_R.uq Hhp672 (g := 11) (p := 69) rfl).2]; rfl)).trans rhp672
        refine (show Ev _ 32 ([some (.ref 69), none, none, none], [], (0, 0), hp676) _ from ?_)
        have K678 := (RK_next Hhp672 fhp676 rfl rfl rfl xhp676 K673).1
        have R679 := RES_fr Hhp672 fhp676 rfl R674
        refine Ev.step (j := 33) (s' := ([some (.ref 69), none, none, none], [.ref 69], (0, 0), hp676)) rfl rfl ?_
        refine bs_lit (k := 2) rfl rfl fun z680 hz680 => ?_
        refine bs_lit (k := 1) rfl rfl fun z681 hz681 => ?_
        refine bs_lit (k := 40) rfl rfl fun z682 hz682 => ?_
        refine bs_callx (K := kq_X11_puts_v0) [.ref 69, .int z680, .int z681, .int z682] [] rfl ce_X11_puts_v0 Hhp676 rfl rfl rfl (bs_rcv (g := 11) Hhp676 (bs_R.uq Hhp676 (g := 11) rfl) (by decide) rfl) rfl ?_ (sf_S_cons (sf_s1 (x := z680.toInt) rfl (by omega) (by omega)) (sf_S_cons (sf_s1 (x := z681.toInt) rfl (by omega) (by omega)) (sf_S_cons (sf_s1 (x := z682.toInt) rfl (by omega) (by omega)) (sf_S_nil)))) fun r683 hp684 thp684 Hhp684 fhp684 ahp684 php684 xhp684 => ?_
        · intro q k h
          match q, h with
          | 0, h => cases h; exact bs_jR (bs_R.uq Hhp676 (g := 11) rfl)
          | 1, h => cases h; exact sf_j0
          | 2, h => cases h; exact sf_j0
          | 3, h => cases h; exact sf_j0
          | q + 4, h => cases h
        obtain ⟨z685, rfl⟩ := bs_anI ahp684
        have rgz685 := n_range z685
        have Fhp684 := sf_fr_tr Fhp676 (sf_fr_wider (W := [(11, 4, 4), (11, 11, 18), (11, 20, 20), (133, 0, 119), (135, 0, 0), (137, 0, 3)]) rfl fhp684)
        have h686 : sf_rd hp684 69 20 = some z671.toInt := (fhp684.2.2.1 _ (bs_R.uq Hhp676 (g := 11) (p := 69) rfl).1 _ (by rw [(bs_R.uq Hhp676 (g := 11) (p := 69) rfl).2]; rfl)).trans h677
        obtain ⟨uz685, vz685⟩ := bs_s1 (x := z685.toInt) rfl (php684 _ (List.mem_of_getElem? (i := 0) rfl))
        refine (show Ev _ 40 ([some (.ref 69), none, none, none], [.int z685], (0, 0), hp684) _ from ?_)
        obtain ⟨q687, rq687, X688⟩ := xhp684 _ _ _ B n lim (i + 1) rfl K678
        obtain rfl := Value.int.inj (Option.some.inj rq687)
        exact bs_zret rfl rfl (by omega) (by omega) (by rw [hQ]; exact ⟨thp684, Hhp684, Fhp684, bs_an0, sf_S_cons (sf_s1 (x := z685.toInt) rfl (by omega) (by omega)) (sf_S_nil), (fun _ => by
                skip
                rw [lnx_load (by omega)]
                have LE : z668.toInt = cond s.ld 1 0 := Option.some.inj (hz668.symm.trans S6.2.1)
                have LD : ¬ s.ld = true := fun hl => by rw [hl] at LE; have LE2 : _ = (1 : Int) := LE; omega
                rw [show lnLoad (tok B n lim) s i = _ from if_neg LD]
                rcases X688 with ⟨Y0, Y1, Y2, Y3, Y4, Y5, Y6⟩ | ⟨Y0, P1, ⟨P2, P3⟩ | ⟨⟨P2, P4⟩, P3⟩⟩
                · rw [lnum_o Y1 (by omega) (by omega)]
                  exact RRES_ok ⟨z685, rfl, by omega⟩ (SR_load S6 (bs_at Y4 (by omega)) (fun q hq => (Y5 q (by omega)).trans (((fhp676.2.2.1 _ (bs_R.uq Hhp672 (g := 133) (p := 72) rfl).1 _ (by rw [(bs_R.uq Hhp672 (g := 133) (p := 72) rfl).2]; rfl)).trans (ehp672 _ _ (Or.inl (by decide)))))) (h686.trans (congrArg some (by omega))) (((fhp684.2.2.2.1 _ (bs_R.uq Hhp676 (g := 137) (p := 76) rfl).1 (by rw [(bs_R.uq Hhp676 (g := 137) (p := 76) rfl).2]; rfl)).trans ((fhp676.2.2.2.1 _ (bs_R.uq Hhp672 (g := 137) (p := 76) rfl).1 (by rw [(bs_R.uq Hhp672 (g := 137) (p := 76) rfl).2]; rfl)).trans (fhp672.2.2.2.1 _ (bs_R.uq Hhp2 (g := 137) rfl).1 (by rw [(bs_R.uq Hhp2 (g := 137) rfl).2]; rfl))))) (((fhp684.2.2.2.1 _ (bs_R.uq Hhp676 (g := 135) (p := 74) rfl).1 (by rw [(bs_R.uq Hhp676 (g := 135) (p := 74) rfl).2]; rfl)).trans ((fhp676.2.2.2.1 _ (bs_R.uq Hhp672 (g := 135) (p := 74) rfl).1 (by rw [(bs_R.uq Hhp672 (g := 135) (p := 74) rfl).2]; rfl)).trans (fhp672.2.2.2.1 _ (bs_R.uq Hhp2 (g := 135) rfl).1 (by rw [(bs_R.uq Hhp2 (g := 135) rfl).2]; rfl)))))) Y6
                · rw [lnum_1 P2]
                  exact RRES_bad ⟨z685, rfl, by omega⟩ P3 P1
                · rw [lnum_2 P2 (by omega)]
                  exact RRES_bad ⟨z685, rfl, by omega⟩ P3 P1)⟩)
      · skip
        refine Ev.step (j := 18) (s' := ([some (.ref 69), none, none, none], [.ref 69], (0, 0), hp2)) rfl rfl ?_
        refine bs_lit (k := 3) rfl rfl fun z689 hz689 => ?_
        refine Ev.inl (L := L_X11_bad) (nL := 2) rfl (bs_rcv (g := 11) Hhp2 (bs_R.uq Hhp2 (g := 11) rfl) (by decide) rfl) rfl (Nat.le_of_ble_eq_true rfl) ?_
        generalize hQ690 : (fun (o : ab_O) => Ev _ _ _ _) = Q690
        refine (show Ev (ab_T L_X11_bad) 0 ([some (.ref 69), some (.int z689)], [], (0, 0), hp2) Q690 from ?_)
        refine Ev.step (j := 1) (s' := ([some (.ref 69), some (.int z689)], [.ref 69], (0, 0), hp2)) rfl rfl ?_
        refine Ev.step (j := 2) (s' := ([some (.ref 69), some (.int z689)], [.int z689, .ref 69], (0, 0), hp2)) rfl rfl ?_
        refine bs_putIv (W := [(11, 15, 15)]) (g := 11) rfl rfl Hhp2 (bs_R.uq Hhp2 (g := 11) rfl) (by decide) rfl rfl rfl rfl (Or.inl rfl) (by omega) (by omega) fun hp691 Hhp691 fhp691 rhp691 ehp691 qhp691 nhp691 => ?_
        have Fhp691 := sf_fr_tr Fhp2 (sf_fr_wider (W := [(11, 4, 4), (11, 11, 18), (11, 20, 20), (133, 0, 119), (135, 0, 0), (137, 0, 3)]) rfl fhp691)
        have h692 : sf_rd hp691 69 20 = some z668.toInt := (ehp691 _ _ (Or.inr (by omega))).trans hz668
        refine Ev.step (j := 6) (s' := ([some (.ref 69), some (.int z689)], [.ref 69], (0, 0), hp691)) rfl rfl ?_
        refine Ev.step (j := 7) (s' := ([some (.ref 69), some (.int z689)], [.ref 69, .ref 69], (0, 0), hp691)) rfl rfl ?_
        refine bs_getI 11 rfl rfl rfl Hhp691 (bs_R.uq Hhp691 (g := 11) rfl) (by decide) rfl fun z693 hz693 lz693 gz693 => ?_
        refine bs_putIv (W := [(11, 16, 16)]) (g := 11) rfl rfl Hhp691 (bs_R.uq Hhp691 (g := 11) rfl) (by decide) rfl rfl rfl rfl (Or.inl rfl) (by omega) (by omega) fun hp694 Hhp694 fhp694 rhp694 ehp694 qhp694 nhp694 => ?_
        have Fhp694 := sf_fr_tr Fhp691 (sf_fr_wider (W := [(11, 4, 4), (11, 11, 18), (11, 20, 20), (133, 0, 119), (135, 0, 0), (137, 0, 3)]) rfl fhp694)
        have h695 : sf_rd hp694 69 20 = some z668.toInt := (ehp694 _ _ (Or.inr (by omega))).trans h692
        have h696 : sf_rd hp694 69 15 = some z689.toInt := (ehp694 _ _ (Or.inr (by omega))).trans rhp691
        have h697 : sf_rd hp694 69 12 = some z693.toInt := (ehp694 _ _ (Or.inr (by omega))).trans hz693
        refine bs_lit (k := 0) rfl rfl fun z698 hz698 => ?_
        refine bs_zret rfl rfl (by omega) (by omega) ?_
        rw [← hQ690]
        refine (show Ev _ 22 ([some (.ref 69), none, none, none], [.int z698], (0, 0), hp694) _ from ?_)
        exact bs_zret rfl rfl (by omega) (by omega) (by rw [hQ]; exact ⟨thp2, Hhp694, Fhp694, bs_an0, sf_S_cons (sf_s1 (x := z698.toInt) rfl (by omega) (by omega)) (sf_S_nil), (fun _ => by
                skip
                rw [lnx_load (by omega)]
                have LE : z668.toInt = cond s.ld 1 0 := Option.some.inj (hz668.symm.trans S6.2.1)
                have LD : s.ld = true := by cases hl : s.ld with | true => rfl | false => (rw [hl] at LE; have LE2 : _ = (0 : Int) := LE; omega)
                rw [show lnLoad (tok B n lim) s i = _ from if_pos LD]
                have PL : z693.toInt = (tok B n lim i).pl := Option.some.inj (hz693.symm.trans (((ehp691 _ _ (Or.inr (by omega)))).trans (RK_pl K5)))
                exact RRES_bad ⟨z698, rfl, by omega⟩ (h696.trans (congrArg some (by omega))) (rhp694.trans (congrArg some PL)))⟩)
