set_option maxRecDepth 100000 in
set_option maxHeartbeats 4000000 in
theorem op_price {xs : Nat → Int32} {n : Nat} {z : Int32} {a5 a6 : Option Value} {m k : Nat} {hp : ab_H} {t : Nat → Nat} {Q : ab_O → Prop} (H : sf_h t hp) (hs : lw_eq hp) (hz0 : 0 ≤ z.toInt) (hz1 : z.toInt + 6 ≤ n) (hn : n ≤ 3072) (hm : m + 21 ≤ 601024) (hk : k + 410 ≤ 7293034) (K : lw_K xs n z m k Q) : Ev (LT xs n) 1103 ([some (.retAddr 0), some (.ref 0), some (.ref 69), some (.ref 87), some (.int z), a5, a6], [], (m, k), hp) Q := by
  refine Ev.step (j := 1104) (s' := ([some (.retAddr 0), some (.ref 0), some (.ref 69), some (.ref 87), some (.int z), a5, a6], [.ref 0], (m, k), hp)) rfl rfl ?_
  refine Ev.step (j := 1105) (s' := ([some (.retAddr 0), some (.ref 0), some (.ref 69), some (.ref 87), some (.int z), a5, a6], [.retAddr 0, .ref 0], (m, k), hp)) rfl rfl ?_
  refine Ev.step (j := 1107) (s' := ([some (.retAddr 0), some (.ref 0), some (.ref 69), some (.ref 87), some (.int z), a5, a6], [.int z, .retAddr 0, .ref 0], (m, k), hp)) rfl rfl ?_
  refine bs_lit (k := 1) rfl rfl fun z397 hz397 => ?_
  refine bs_add rfl (by omega) (by omega) fun z398 hz398 => ?_
  refine ls_sld rfl (by omega) (by omega) ?_
  refine (show Ev _ 1110 ([some (.retAddr 0), some (.ref 0), some (.ref 69), some (.ref 87), some (.int z), a5, a6], [.int (xs z398.toNatClampNeg), .ref 0], (m, k), hp) _ from ?_)
  refine Ev.step (j := 1111) (s' := ([some (.retAddr 0), some (.ref 0), some (.ref 69), some (.ref 87), some (.int z), a5, a6], [.retAddr 0, .int (xs z398.toNatClampNeg), .ref 0], (m, k), hp)) rfl rfl ?_
  refine Ev.step (j := 1113) (s' := ([some (.retAddr 0), some (.ref 0), some (.ref 69), some (.ref 87), some (.int z), a5, a6], [.int z, .retAddr 0, .int (xs z398.toNatClampNeg), .ref 0], (m, k), hp)) rfl rfl ?_
  refine bs_lit (k := 2) rfl rfl fun z399 hz399 => ?_
  refine bs_add rfl (by omega) (by omega) fun z400 hz400 => ?_
  refine ls_sld rfl (by omega) (by omega) ?_
  refine (show Ev _ 1116 ([some (.retAddr 0), some (.ref 0), some (.ref 69), some (.ref 87), some (.int z), a5, a6], [.int (xs z400.toNatClampNeg), .int (xs z398.toNatClampNeg), .ref 0], (m, k), hp) _ from ?_)
  refine bs_call (K := kq_X10_price_57b5ea) [.ref 0, .int (xs z398.toNatClampNeg), .int (xs z400.toNatClampNeg)] [] rfl ct_X10_price_57b5ea H rfl rfl rfl (bs_rcv (g := 10) H (bs_R.uq H (g := 10) rfl) (by decide) rfl) (ls_room (Nat.le_of_ble_eq_true rfl) (by omega) (by omega)) ?_ (sf_S_nil) fun r402 hp401 thp401 Hhp401 fhp401 ahp401 php401 => ?_
  · intro q k h
    match q, h with
    | 0, h => cases h; exact bs_jR (bs_R.uq H (g := 10) rfl)
    | 1, h => cases h; exact sf_j0
    | 2, h => cases h; exact sf_j0
    | q + 3, h => cases h
  obtain ⟨z403, rfl⟩ := bs_anI ahp401
  have E404 := lw_keep H fhp401 rfl rfl hs
  refine (show Ev _ 1119 ([some (.retAddr 0), some (.ref 0), some (.ref 69), some (.ref 87), some (.int z), a5, a6], [.int z403], (m + 0, k + 0), hp401) _ from ?_)
  refine Ev.step (j := 1120) (s' := ([some (.retAddr 0), some (.ref 0), some (.ref 69), some (.ref 87), some (.int z), a5, a6], [], (m + 0, k + 0), hp401)) rfl rfl ?_
  refine Ev.step (j := 1121) (s' := ([some (.retAddr 0), some (.ref 0), some (.ref 69), some (.ref 87), some (.int z), a5, a6], [.ref 69], (m + 0, k + 0), hp401)) rfl rfl ?_
  refine Ev.step (j := 1122) (s' := ([some (.retAddr 0), some (.ref 0), some (.ref 69), some (.ref 87), some (.int z), a5, a6], [.retAddr 0, .ref 69], (m + 0, k + 0), hp401)) rfl rfl ?_
  refine Ev.step (j := 1124) (s' := ([some (.retAddr 0), some (.ref 0), some (.ref 69), some (.ref 87), some (.int z), a5, a6], [.int z, .retAddr 0, .ref 69], (m + 0, k + 0), hp401)) rfl rfl ?_
  refine bs_lit (k := 1) rfl rfl fun z405 hz405 => ?_
  refine bs_add rfl (by omega) (by omega) fun z406 hz406 => ?_
  refine ls_sld rfl (by omega) (by omega) ?_
  refine (show Ev _ 1127 ([some (.retAddr 0), some (.ref 0), some (.ref 69), some (.ref 87), some (.int z), a5, a6], [.int (xs z406.toNatClampNeg), .ref 69], (m + 0, k + 0), hp401) _ from ?_)
  refine Ev.step (j := 1128) (s' := ([some (.retAddr 0), some (.ref 0), some (.ref 69), some (.ref 87), some (.int z), a5, a6], [.retAddr 0, .int (xs z406.toNatClampNeg), .ref 69], (m + 0, k + 0), hp401)) rfl rfl ?_
  refine Ev.step (j := 1130) (s' := ([some (.retAddr 0), some (.ref 0), some (.ref 69), some (.ref 87), some (.int z), a5, a6], [.int z, .retAddr 0, .int (xs z406.toNatClampNeg), .ref 69], (m + 0, k + 0), hp401)) rfl rfl ?_
  refine bs_lit (k := 2) rfl rfl fun z407 hz407 => ?_
  refine bs_add rfl (by omega) (by omega) fun z408 hz408 => ?_
  refine ls_sld rfl (by omega) (by omega) ?_
  refine (show Ev _ 1133 ([some (.retAddr 0), some (.ref 0), some (.ref 69), some (.ref 87), some (.int z), a5, a6], [.int (xs z408.toNatClampNeg), .int (xs z406.toNatClampNeg), .ref 69], (m + 0, k + 0), hp401) _ from ?_)
  refine bs_call (K := kq_X11_price_334faa) [.ref 69, .int (xs z406.toNatClampNeg), .int (xs z408.toNatClampNeg)] [] rfl ct_X11_price_334faa Hhp401 rfl rfl rfl (bs_rcv (g := 11) Hhp401 (bs_R.uq Hhp401 (g := 11) rfl) (by decide) rfl) (ls_room (Nat.le_of_ble_eq_true rfl) (by omega) (by omega)) ?_ (sf_S_nil) fun r410 hp409 thp409 Hhp409 fhp409 ahp409 php409 => ?_
  · intro q k h
    match q, h with
    | 0, h => cases h; exact bs_jR (bs_R.uq Hhp401 (g := 11) rfl)
    | 1, h => cases h; exact sf_j0
    | 2, h => cases h; exact sf_j0
    | q + 3, h => cases h
  obtain ⟨z411, rfl⟩ := bs_anI ahp409
  have E412 := lw_keep Hhp401 fhp409 rfl rfl E404
  refine (show Ev _ 1136 ([some (.retAddr 0), some (.ref 0), some (.ref 69), some (.ref 87), some (.int z), a5, a6], [.int z411], (m + 0 + 0, k + 0 + 0), hp409) _ from ?_)
  refine Ev.step (j := 1137) (s' := ([some (.retAddr 0), some (.ref 0), some (.ref 69), some (.ref 87), some (.int z), a5, a6], [], (m + 0 + 0, k + 0 + 0), hp409)) rfl rfl ?_
  refine Ev.step (j := 1440) (s' := ([some (.retAddr 0), some (.ref 0), some (.ref 69), some (.ref 87), some (.int z), a5, a6], [], (m + 0 + 0, k + 0 + 0), hp409)) rfl rfl ?_
  exact K _ _ _ _ _ _ Hhp409 E412 (by omega) (by omega)
set_option maxRecDepth 100000 in
set_option maxHeartbeats 4000000 in
theorem op_dearest {xs : Nat → Int32} {n : Nat} {z : Int32} {a5 a6 : Option Value} {m k : Nat} {hp : ab_H} {t : Nat → Nat} {Q : ab_O → Prop} (H : sf_h t hp) (hs : lw_eq hp) (hz0 : 0 ≤ z.toInt) (hz1 : z.toInt + 6 ≤ n) (hn : n ≤ 3072) (hm : m + 21 ≤ 601024) (hk : k + 410 ≤ 7293034) (K : lw_K xs n z m k Q) : Ev (LT xs n) 1140 ([some (.retAddr 0), some (.ref 0), some (.ref 69), some (.ref 87), some (.int z), a5, a6], [], (m, k), hp) Q := by
  refine Ev.step (j := 1141) (s' := ([some (.retAddr 0), some (.ref 0), some (.ref 69), some (.ref 87), some (.int z), a5, a6], [.ref 0], (m, k), hp)) rfl rfl ?_
  refine bs_call (K := kq_X10_dearest_4c18a7) [.ref 0] [] rfl ct_X10_dearest_4c18a7 H rfl rfl rfl (bs_rcv (g := 10) H (bs_R.uq H (g := 10) rfl) (by decide) rfl) (ls_room (Nat.le_of_ble_eq_true rfl) (by omega) (by omega)) ?_ (sf_S_nil) fun r414 hp413 thp413 Hhp413 fhp413 ahp413 php413 => ?_
  · intro q k h
    match q, h with
    | 0, h => cases h; exact bs_jR (bs_R.uq H (g := 10) rfl)
    | q + 1, h => cases h
  obtain ⟨z415, rfl⟩ := bs_anI ahp413
  have E416 := lw_keep H fhp413 rfl rfl hs
  refine (show Ev _ 1144 ([some (.retAddr 0), some (.ref 0), some (.ref 69), some (.ref 87), some (.int z), a5, a6], [.int z415], (m + 0, k + 0), hp413) _ from ?_)
  refine Ev.step (j := 1145) (s' := ([some (.retAddr 0), some (.ref 0), some (.ref 69), some (.ref 87), some (.int z), a5, a6], [], (m + 0, k + 0), hp413)) rfl rfl ?_
  refine Ev.step (j := 1146) (s' := ([some (.retAddr 0), some (.ref 0), some (.ref 69), some (.ref 87), some (.int z), a5, a6], [.ref 69], (m + 0, k + 0), hp413)) rfl rfl ?_
  refine bs_call (K := kq_X11_dearest_6afe8b) [.ref 69] [] rfl ct_X11_dearest_6afe8b Hhp413 rfl rfl rfl (bs_rcv (g := 11) Hhp413 (bs_R.uq Hhp413 (g := 11) rfl) (by decide) rfl) (ls_room (Nat.le_of_ble_eq_true rfl) (by omega) (by omega)) ?_ (sf_S_nil) fun r418 hp417 thp417 Hhp417 fhp417 ahp417 php417 => ?_
  · intro q k h
    match q, h with
    | 0, h => cases h; exact bs_jR (bs_R.uq Hhp413 (g := 11) rfl)
    | q + 1, h => cases h
  obtain ⟨z419, rfl⟩ := bs_anI ahp417
  have E420 := lw_keep Hhp413 fhp417 rfl rfl E416
  refine (show Ev _ 1149 ([some (.retAddr 0), some (.ref 0), some (.ref 69), some (.ref 87), some (.int z), a5, a6], [.int z419], (m + 0 + 0, k + 0 + 0), hp417) _ from ?_)
  refine Ev.step (j := 1150) (s' := ([some (.retAddr 0), some (.ref 0), some (.ref 69), some (.ref 87), some (.int z), a5, a6], [], (m + 0 + 0, k + 0 + 0), hp417)) rfl rfl ?_
  refine Ev.step (j := 1440) (s' := ([some (.retAddr 0), some (.ref 0), some (.ref 69), some (.ref 87), some (.int z), a5, a6], [], (m + 0 + 0, k + 0 + 0), hp417)) rfl rfl ?_
  exact K _ _ _ _ _ _ Hhp417 E420 (by omega) (by omega)
set_option maxRecDepth 100000 in
set_option maxHeartbeats 4000000 in
theorem op_rats {xs : Nat → Int32} {n : Nat} {z : Int32} {a5 a6 : Option Value} {m k : Nat} {hp : ab_H} {t : Nat → Nat} {Q : ab_O → Prop} (H : sf_h t hp) (hs : lw_eq hp) (hz0 : 0 ≤ z.toInt) (hz1 : z.toInt + 6 ≤ n) (hn : n ≤ 3072) (hm : m + 21 ≤ 601024) (hk : k + 410 ≤ 7293034) (K : lw_K xs n z m k Q) : Ev (LT xs n) 1153 ([some (.retAddr 0), some (.ref 0), some (.ref 69), some (.ref 87), some (.int z), a5, a6], [], (m, k), hp) Q := by
  refine Ev.step (j := 1154) (s' := ([some (.retAddr 0), some (.ref 0), some (.ref 69), some (.ref 87), some (.int z), a5, a6], [.ref 0], (m, k), hp)) rfl rfl ?_
  refine bs_call (K := kq_X10_rats_4c18a7) [.ref 0] [] rfl ct_X10_rats_4c18a7 H rfl rfl rfl (bs_rcv (g := 10) H (bs_R.uq H (g := 10) rfl) (by decide) rfl) (ls_room (Nat.le_of_ble_eq_true rfl) (by omega) (by omega)) ?_ (sf_S_nil) fun r422 hp421 thp421 Hhp421 fhp421 ahp421 php421 => ?_
  · intro q k h
    match q, h with
    | 0, h => cases h; exact bs_jR (bs_R.uq H (g := 10) rfl)
    | q + 1, h => cases h
  obtain ⟨z423, rfl⟩ := bs_anI ahp421
  have E424 := lw_keep H fhp421 rfl rfl hs
  refine (show Ev _ 1157 ([some (.retAddr 0), some (.ref 0), some (.ref 69), some (.ref 87), some (.int z), a5, a6], [.int z423], (m + 0, k + 0), hp421) _ from ?_)
  refine Ev.step (j := 1158) (s' := ([some (.retAddr 0), some (.ref 0), some (.ref 69), some (.ref 87), some (.int z), a5, a6], [], (m + 0, k + 0), hp421)) rfl rfl ?_
  refine Ev.step (j := 1159) (s' := ([some (.retAddr 0), some (.ref 0), some (.ref 69), some (.ref 87), some (.int z), a5, a6], [.ref 69], (m + 0, k + 0), hp421)) rfl rfl ?_
  refine bs_call (K := kq_X11_rats_6afe8b) [.ref 69] [] rfl ct_X11_rats_6afe8b Hhp421 rfl rfl rfl (bs_rcv (g := 11) Hhp421 (bs_R.uq Hhp421 (g := 11) rfl) (by decide) rfl) (ls_room (Nat.le_of_ble_eq_true rfl) (by omega) (by omega)) ?_ (sf_S_nil) fun r426 hp425 thp425 Hhp425 fhp425 ahp425 php425 => ?_
  · intro q k h
    match q, h with
    | 0, h => cases h; exact bs_jR (bs_R.uq Hhp421 (g := 11) rfl)
    | q + 1, h => cases h
  obtain ⟨z427, rfl⟩ := bs_anI ahp425
  have E428 := lw_keep Hhp421 fhp425 rfl rfl E424
  refine (show Ev _ 1162 ([some (.retAddr 0), some (.ref 0), some (.ref 69), some (.ref 87), some (.int z), a5, a6], [.int z427], (m + 0 + 0, k + 0 + 0), hp425) _ from ?_)
  refine Ev.step (j := 1163) (s' := ([some (.retAddr 0), some (.ref 0), some (.ref 69), some (.ref 87), some (.int z), a5, a6], [], (m + 0 + 0, k + 0 + 0), hp425)) rfl rfl ?_
  refine Ev.step (j := 1440) (s' := ([some (.retAddr 0), some (.ref 0), some (.ref 69), some (.ref 87), some (.int z), a5, a6], [], (m + 0 + 0, k + 0 + 0), hp425)) rfl rfl ?_
  exact K _ _ _ _ _ _ Hhp425 E428 (by omega) (by omega)
set_option maxRecDepth 100000 in
set_option maxHeartbeats 4000000 in
theorem op_hoarded {xs : Nat → Int32} {n : Nat} {z : Int32} {a5 a6 : Option Value} {m k : Nat} {hp : ab_H} {t : Nat → Nat} {Q : ab_O → Prop} (H : sf_h t hp) (hs : lw_eq hp) (hz0 : 0 ≤ z.toInt) (hz1 : z.toInt + 6 ≤ n) (hn : n ≤ 3072) (hm : m + 21 ≤ 601024) (hk : k + 410 ≤ 7293034) (K : lw_K xs n z m k Q) : Ev (LT xs n) 1166 ([some (.retAddr 0), some (.ref 0), some (.ref 69), some (.ref 87), some (.int z), a5, a6], [], (m, k), hp) Q := by
  refine Ev.step (j := 1167) (s' := ([some (.retAddr 0), some (.ref 0), some (.ref 69), some (.ref 87), some (.int z), a5, a6], [.ref 0], (m, k), hp)) rfl rfl ?_
  refine Ev.step (j := 1168) (s' := ([some (.retAddr 0), some (.ref 0), some (.ref 69), some (.ref 87), some (.int z), a5, a6], [.retAddr 0, .ref 0], (m, k), hp)) rfl rfl ?_
  refine Ev.step (j := 1170) (s' := ([some (.retAddr 0), some (.ref 0), some (.ref 69), some (.ref 87), some (.int z), a5, a6], [.int z, .retAddr 0, .ref 0], (m, k), hp)) rfl rfl ?_
  refine bs_lit (k := 1) rfl rfl fun z429 hz429 => ?_
  refine bs_add rfl (by omega) (by omega) fun z430 hz430 => ?_
  refine ls_sld rfl (by omega) (by omega) ?_
  refine (show Ev _ 1173 ([some (.retAddr 0), some (.ref 0), some (.ref 69), some (.ref 87), some (.int z), a5, a6], [.int (xs z430.toNatClampNeg), .ref 0], (m, k), hp) _ from ?_)
  refine bs_call (K := kq_X10_hoarded_0df2a5) [.ref 0, .int (xs z430.toNatClampNeg)] [] rfl ct_X10_hoarded_0df2a5 H rfl rfl rfl (bs_rcv (g := 10) H (bs_R.uq H (g := 10) rfl) (by decide) rfl) (ls_room (Nat.le_of_ble_eq_true rfl) (by omega) (by omega)) ?_ (sf_S_nil) fun r432 hp431 thp431 Hhp431 fhp431 ahp431 php431 => ?_
  · intro q k h
    match q, h with
    | 0, h => cases h; exact bs_jR (bs_R.uq H (g := 10) rfl)
    | 1, h => cases h; exact sf_j0
    | q + 2, h => cases h
  obtain ⟨z433, rfl⟩ := bs_anI ahp431
  have E434 := lw_keep H fhp431 rfl rfl hs
  refine (show Ev _ 1176 ([some (.retAddr 0), some (.ref 0), some (.ref 69), some (.ref 87), some (.int z), a5, a6], [.int z433], (m + 0, k + 0), hp431) _ from ?_)
  refine Ev.step (j := 1177) (s' := ([some (.retAddr 0), some (.ref 0), some (.ref 69), some (.ref 87), some (.int z), a5, a6], [], (m + 0, k + 0), hp431)) rfl rfl ?_
  refine Ev.step (j := 1178) (s' := ([some (.retAddr 0), some (.ref 0), some (.ref 69), some (.ref 87), some (.int z), a5, a6], [.ref 69], (m + 0, k + 0), hp431)) rfl rfl ?_
  refine Ev.step (j := 1179) (s' := ([some (.retAddr 0), some (.ref 0), some (.ref 69), some (.ref 87), some (.int z), a5, a6], [.retAddr 0, .ref 69], (m + 0, k + 0), hp431)) rfl rfl ?_
  refine Ev.step (j := 1181) (s' := ([some (.retAddr 0), some (.ref 0), some (.ref 69), some (.ref 87), some (.int z), a5, a6], [.int z, .retAddr 0, .ref 69], (m + 0, k + 0), hp431)) rfl rfl ?_
  refine bs_lit (k := 1) rfl rfl fun z435 hz435 => ?_
  refine bs_add rfl (by omega) (by omega) fun z436 hz436 => ?_
  refine ls_sld rfl (by omega) (by omega) ?_
  refine (show Ev _ 1184 ([some (.retAddr 0), some (.ref 0), some (.ref 69), some (.ref 87), some (.int z), a5, a6], [.int (xs z436.toNatClampNeg), .ref 69], (m + 0, k + 0), hp431) _ from ?_)
  refine bs_call (K := kq_X11_hoarded_3d45d6) [.ref 69, .int (xs z436.toNatClampNeg)] [] rfl ct_X11_hoarded_3d45d6 Hhp431 rfl rfl rfl (bs_rcv (g := 11) Hhp431 (bs_R.uq Hhp431 (g := 11) rfl) (by decide) rfl) (ls_room (Nat.le_of_ble_eq_true rfl) (by omega) (by omega)) ?_ (sf_S_nil) fun r438 hp437 thp437 Hhp437 fhp437 ahp437 php437 => ?_
  · intro q k h
    match q, h with
    | 0, h => cases h; exact bs_jR (bs_R.uq Hhp431 (g := 11) rfl)
    | 1, h => cases h; exact sf_j0
    | q + 2, h => cases h
  obtain ⟨z439, rfl⟩ := bs_anI ahp437
  have E440 := lw_keep Hhp431 fhp437 rfl rfl E434
  refine (show Ev _ 1187 ([some (.retAddr 0), some (.ref 0), some (.ref 69), some (.ref 87), some (.int z), a5, a6], [.int z439], (m + 0 + 0, k + 0 + 0), hp437) _ from ?_)
  refine Ev.step (j := 1188) (s' := ([some (.retAddr 0), some (.ref 0), some (.ref 69), some (.ref 87), some (.int z), a5, a6], [], (m + 0 + 0, k + 0 + 0), hp437)) rfl rfl ?_
  refine Ev.step (j := 1440) (s' := ([some (.retAddr 0), some (.ref 0), some (.ref 69), some (.ref 87), some (.int z), a5, a6], [], (m + 0 + 0, k + 0 + 0), hp437)) rfl rfl ?_
  exact K _ _ _ _ _ _ Hhp437 E440 (by omega) (by omega)
set_option maxRecDepth 100000 in
set_option maxHeartbeats 4000000 in
theorem op_drawn {xs : Nat → Int32} {n : Nat} {z : Int32} {a5 a6 : Option Value} {m k : Nat} {hp : ab_H} {t : Nat → Nat} {Q : ab_O → Prop} (H : sf_h t hp) (hs : lw_eq hp) (hz0 : 0 ≤ z.toInt) (hz1 : z.toInt + 6 ≤ n) (hn : n ≤ 3072) (hm : m + 21 ≤ 601024) (hk : k + 410 ≤ 7293034) (K : lw_K xs n z m k Q) : Ev (LT xs n) 1191 ([some (.retAddr 0), some (.ref 0), some (.ref 69), some (.ref 87), some (.int z), a5, a6], [], (m, k), hp) Q := by
  refine Ev.step (j := 1192) (s' := ([some (.retAddr 0), some (.ref 0), some (.ref 69), some (.ref 87), some (.int z), a5, a6], [.ref 0], (m, k), hp)) rfl rfl ?_
  refine Ev.step (j := 1193) (s' := ([some (.retAddr 0), some (.ref 0), some (.ref 69), some (.ref 87), some (.int z), a5, a6], [.retAddr 0, .ref 0], (m, k), hp)) rfl rfl ?_
  refine Ev.step (j := 1195) (s' := ([some (.retAddr 0), some (.ref 0), some (.ref 69), some (.ref 87), some (.int z), a5, a6], [.int z, .retAddr 0, .ref 0], (m, k), hp)) rfl rfl ?_
  refine bs_lit (k := 1) rfl rfl fun z441 hz441 => ?_
  refine bs_add rfl (by omega) (by omega) fun z442 hz442 => ?_
  refine ls_sld rfl (by omega) (by omega) ?_
  refine (show Ev _ 1198 ([some (.retAddr 0), some (.ref 0), some (.ref 69), some (.ref 87), some (.int z), a5, a6], [.int (xs z442.toNatClampNeg), .ref 0], (m, k), hp) _ from ?_)
  refine Ev.step (j := 1199) (s' := ([some (.retAddr 0), some (.ref 0), some (.ref 69), some (.ref 87), some (.int z), a5, a6], [.retAddr 0, .int (xs z442.toNatClampNeg), .ref 0], (m, k), hp)) rfl rfl ?_
  refine Ev.step (j := 1201) (s' := ([some (.retAddr 0), some (.ref 0), some (.ref 69), some (.ref 87), some (.int z), a5, a6], [.int z, .retAddr 0, .int (xs z442.toNatClampNeg), .ref 0], (m, k), hp)) rfl rfl ?_
  refine bs_lit (k := 2) rfl rfl fun z443 hz443 => ?_
  refine bs_add rfl (by omega) (by omega) fun z444 hz444 => ?_
  refine ls_sld rfl (by omega) (by omega) ?_
  refine (show Ev _ 1204 ([some (.retAddr 0), some (.ref 0), some (.ref 69), some (.ref 87), some (.int z), a5, a6], [.int (xs z444.toNatClampNeg), .int (xs z442.toNatClampNeg), .ref 0], (m, k), hp) _ from ?_)
  refine bs_call (K := kq_X10_drawn_57b5ea) [.ref 0, .int (xs z442.toNatClampNeg), .int (xs z444.toNatClampNeg)] [] rfl ct_X10_drawn_57b5ea H rfl rfl rfl (bs_rcv (g := 10) H (bs_R.uq H (g := 10) rfl) (by decide) rfl) (ls_room (Nat.le_of_ble_eq_true rfl) (by omega) (by omega)) ?_ (sf_S_nil) fun r446 hp445 thp445 Hhp445 fhp445 ahp445 php445 => ?_
  · intro q k h
    match q, h with
    | 0, h => cases h; exact bs_jR (bs_R.uq H (g := 10) rfl)
    | 1, h => cases h; exact sf_j0
    | 2, h => cases h; exact sf_j0
    | q + 3, h => cases h
  obtain ⟨z447, rfl⟩ := bs_anI ahp445
  have E448 := lw_keep H fhp445 rfl rfl hs
  refine (show Ev _ 1207 ([some (.retAddr 0), some (.ref 0), some (.ref 69), some (.ref 87), some (.int z), a5, a6], [.int z447], (m + 8, k + 138), hp445) _ from ?_)
  refine Ev.step (j := 1208) (s' := ([some (.retAddr 0), some (.ref 0), some (.ref 69), some (.ref 87), some (.int z), a5, a6], [], (m + 8, k + 138), hp445)) rfl rfl ?_
  refine Ev.step (j := 1209) (s' := ([some (.retAddr 0), some (.ref 0), some (.ref 69), some (.ref 87), some (.int z), a5, a6], [.ref 69], (m + 8, k + 138), hp445)) rfl rfl ?_
  refine Ev.step (j := 1210) (s' := ([some (.retAddr 0), some (.ref 0), some (.ref 69), some (.ref 87), some (.int z), a5, a6], [.retAddr 0, .ref 69], (m + 8, k + 138), hp445)) rfl rfl ?_
  refine Ev.step (j := 1212) (s' := ([some (.retAddr 0), some (.ref 0), some (.ref 69), some (.ref 87), some (.int z), a5, a6], [.int z, .retAddr 0, .ref 69], (m + 8, k + 138), hp445)) rfl rfl ?_
  refine bs_lit (k := 1) rfl rfl fun z449 hz449 => ?_
  refine bs_add rfl (by omega) (by omega) fun z450 hz450 => ?_
  refine ls_sld rfl (by omega) (by omega) ?_
  refine (show Ev _ 1215 ([some (.retAddr 0), some (.ref 0), some (.ref 69), some (.ref 87), some (.int z), a5, a6], [.int (xs z450.toNatClampNeg), .ref 69], (m + 8, k + 138), hp445) _ from ?_)
  refine Ev.step (j := 1216) (s' := ([some (.retAddr 0), some (.ref 0), some (.ref 69), some (.ref 87), some (.int z), a5, a6], [.retAddr 0, .int (xs z450.toNatClampNeg), .ref 69], (m + 8, k + 138), hp445)) rfl rfl ?_
  refine Ev.step (j := 1218) (s' := ([some (.retAddr 0), some (.ref 0), some (.ref 69), some (.ref 87), some (.int z), a5, a6], [.int z, .retAddr 0, .int (xs z450.toNatClampNeg), .ref 69], (m + 8, k + 138), hp445)) rfl rfl ?_
  refine bs_lit (k := 2) rfl rfl fun z451 hz451 => ?_
  refine bs_add rfl (by omega) (by omega) fun z452 hz452 => ?_
  refine ls_sld rfl (by omega) (by omega) ?_
  refine (show Ev _ 1221 ([some (.retAddr 0), some (.ref 0), some (.ref 69), some (.ref 87), some (.int z), a5, a6], [.int (xs z452.toNatClampNeg), .int (xs z450.toNatClampNeg), .ref 69], (m + 8, k + 138), hp445) _ from ?_)
  refine bs_call (K := kq_X11_drawn_334faa) [.ref 69, .int (xs z450.toNatClampNeg), .int (xs z452.toNatClampNeg)] [] rfl ct_X11_drawn_334faa Hhp445 rfl rfl rfl (bs_rcv (g := 11) Hhp445 (bs_R.uq Hhp445 (g := 11) rfl) (by decide) rfl) (ls_room (Nat.le_of_ble_eq_true rfl) (by omega) (by omega)) ?_ (sf_S_nil) fun r454 hp453 thp453 Hhp453 fhp453 ahp453 php453 => ?_
  · intro q k h
    match q, h with
    | 0, h => cases h; exact bs_jR (bs_R.uq Hhp445 (g := 11) rfl)
    | 1, h => cases h; exact sf_j0
    | 2, h => cases h; exact sf_j0
    | q + 3, h => cases h
  obtain ⟨z455, rfl⟩ := bs_anI ahp453
  have E456 := lw_keep Hhp445 fhp453 rfl rfl E448
  refine (show Ev _ 1224 ([some (.retAddr 0), some (.ref 0), some (.ref 69), some (.ref 87), some (.int z), a5, a6], [.int z455], (m + 8 + 0, k + 138 + 0), hp453) _ from ?_)
  refine Ev.step (j := 1225) (s' := ([some (.retAddr 0), some (.ref 0), some (.ref 69), some (.ref 87), some (.int z), a5, a6], [], (m + 8 + 0, k + 138 + 0), hp453)) rfl rfl ?_
  refine Ev.step (j := 1440) (s' := ([some (.retAddr 0), some (.ref 0), some (.ref 69), some (.ref 87), some (.int z), a5, a6], [], (m + 8 + 0, k + 138 + 0), hp453)) rfl rfl ?_
  exact K _ _ _ _ _ _ Hhp453 E456 (by omega) (by omega)
set_option maxRecDepth 100000 in
set_option maxHeartbeats 4000000 in
theorem op_odds {xs : Nat → Int32} {n : Nat} {z : Int32} {a5 a6 : Option Value} {m k : Nat} {hp : ab_H} {t : Nat → Nat} {Q : ab_O → Prop} (H : sf_h t hp) (hs : lw_eq hp) (hz0 : 0 ≤ z.toInt) (hz1 : z.toInt + 6 ≤ n) (hn : n ≤ 3072) (hm : m + 21 ≤ 601024) (hk : k + 410 ≤ 7293034) (K : lw_K xs n z m k Q) : Ev (LT xs n) 1228 ([some (.retAddr 0), some (.ref 0), some (.ref 69), some (.ref 87), some (.int z), a5, a6], [], (m, k), hp) Q := by
  refine Ev.step (j := 1229) (s' := ([some (.retAddr 0), some (.ref 0), some (.ref 69), some (.ref 87), some (.int z), a5, a6], [.ref 0], (m, k), hp)) rfl rfl ?_
  refine Ev.step (j := 1230) (s' := ([some (.retAddr 0), some (.ref 0), some (.ref 69), some (.ref 87), some (.int z), a5, a6], [.retAddr 0, .ref 0], (m, k), hp)) rfl rfl ?_
  refine Ev.step (j := 1232) (s' := ([some (.retAddr 0), some (.ref 0), some (.ref 69), some (.ref 87), some (.int z), a5, a6], [.int z, .retAddr 0, .ref 0], (m, k), hp)) rfl rfl ?_
  refine bs_lit (k := 1) rfl rfl fun z457 hz457 => ?_
  refine bs_add rfl (by omega) (by omega) fun z458 hz458 => ?_
  refine ls_sld rfl (by omega) (by omega) ?_
  refine (show Ev _ 1235 ([some (.retAddr 0), some (.ref 0), some (.ref 69), some (.ref 87), some (.int z), a5, a6], [.int (xs z458.toNatClampNeg), .ref 0], (m, k), hp) _ from ?_)
  refine Ev.step (j := 1236) (s' := ([some (.retAddr 0), some (.ref 0), some (.ref 69), some (.ref 87), some (.int z), a5, a6], [.retAddr 0, .int (xs z458.toNatClampNeg), .ref 0], (m, k), hp)) rfl rfl ?_
  refine Ev.step (j := 1238) (s' := ([some (.retAddr 0), some (.ref 0), some (.ref 69), some (.ref 87), some (.int z), a5, a6], [.int z, .retAddr 0, .int (xs z458.toNatClampNeg), .ref 0], (m, k), hp)) rfl rfl ?_
  refine bs_lit (k := 2) rfl rfl fun z459 hz459 => ?_
  refine bs_add rfl (by omega) (by omega) fun z460 hz460 => ?_
  refine ls_sld rfl (by omega) (by omega) ?_
  refine (show Ev _ 1241 ([some (.retAddr 0), some (.ref 0), some (.ref 69), some (.ref 87), some (.int z), a5, a6], [.int (xs z460.toNatClampNeg), .int (xs z458.toNatClampNeg), .ref 0], (m, k), hp) _ from ?_)
  refine Ev.step (j := 1242) (s' := ([some (.retAddr 0), some (.ref 0), some (.ref 69), some (.ref 87), some (.int z), a5, a6], [.retAddr 0, .int (xs z460.toNatClampNeg), .int (xs z458.toNatClampNeg), .ref 0], (m, k), hp)) rfl rfl ?_
  refine Ev.step (j := 1244) (s' := ([some (.retAddr 0), some (.ref 0), some (.ref 69), some (.ref 87), some (.int z), a5, a6], [.int z, .retAddr 0, .int (xs z460.toNatClampNeg), .int (xs z458.toNatClampNeg), .ref 0], (m, k), hp)) rfl rfl ?_
  refine bs_lit (k := 3) rfl rfl fun z461 hz461 => ?_
  refine bs_add rfl (by omega) (by omega) fun z462 hz462 => ?_
  refine ls_sld rfl (by omega) (by omega) ?_
  refine (show Ev _ 1247 ([some (.retAddr 0), some (.ref 0), some (.ref 69), some (.ref 87), some (.int z), a5, a6], [.int (xs z462.toNatClampNeg), .int (xs z460.toNatClampNeg), .int (xs z458.toNatClampNeg), .ref 0], (m, k), hp) _ from ?_)
  refine bs_call (K := kq_X10_odds_7e6f69) [.ref 0, .int (xs z458.toNatClampNeg), .int (xs z460.toNatClampNeg), .int (xs z462.toNatClampNeg)] [] rfl ct_X10_odds_7e6f69 H rfl rfl rfl (bs_rcv (g := 10) H (bs_R.uq H (g := 10) rfl) (by decide) rfl) (ls_room (Nat.le_of_ble_eq_true rfl) (by omega) (by omega)) ?_ (sf_S_nil) fun r464 hp463 thp463 Hhp463 fhp463 ahp463 php463 => ?_
  · intro q k h
    match q, h with
    | 0, h => cases h; exact bs_jR (bs_R.uq H (g := 10) rfl)
    | 1, h => cases h; exact sf_j0
    | 2, h => cases h; exact sf_j0
    | 3, h => cases h; exact sf_j0
    | q + 4, h => cases h
  obtain ⟨z465, rfl⟩ := bs_anI ahp463
  have E466 := lw_keep H fhp463 rfl rfl hs
  refine (show Ev _ 1250 ([some (.retAddr 0), some (.ref 0), some (.ref 69), some (.ref 87), some (.int z), a5, a6], [.int z465], (m + 0, k + 0), hp463) _ from ?_)
  refine Ev.step (j := 1251) (s' := ([some (.retAddr 0), some (.ref 0), some (.ref 69), some (.ref 87), some (.int z), a5, a6], [], (m + 0, k + 0), hp463)) rfl rfl ?_
  refine Ev.step (j := 1252) (s' := ([some (.retAddr 0), some (.ref 0), some (.ref 69), some (.ref 87), some (.int z), a5, a6], [.ref 69], (m + 0, k + 0), hp463)) rfl rfl ?_
  refine Ev.step (j := 1253) (s' := ([some (.retAddr 0), some (.ref 0), some (.ref 69), some (.ref 87), some (.int z), a5, a6], [.retAddr 0, .ref 69], (m + 0, k + 0), hp463)) rfl rfl ?_
  refine Ev.step (j := 1255) (s' := ([some (.retAddr 0), some (.ref 0), some (.ref 69), some (.ref 87), some (.int z), a5, a6], [.int z, .retAddr 0, .ref 69], (m + 0, k + 0), hp463)) rfl rfl ?_
  refine bs_lit (k := 1) rfl rfl fun z467 hz467 => ?_
  refine bs_add rfl (by omega) (by omega) fun z468 hz468 => ?_
  refine ls_sld rfl (by omega) (by omega) ?_
  refine (show Ev _ 1258 ([some (.retAddr 0), some (.ref 0), some (.ref 69), some (.ref 87), some (.int z), a5, a6], [.int (xs z468.toNatClampNeg), .ref 69], (m + 0, k + 0), hp463) _ from ?_)
  refine Ev.step (j := 1259) (s' := ([some (.retAddr 0), some (.ref 0), some (.ref 69), some (.ref 87), some (.int z), a5, a6], [.retAddr 0, .int (xs z468.toNatClampNeg), .ref 69], (m + 0, k + 0), hp463)) rfl rfl ?_
  refine Ev.step (j := 1261) (s' := ([some (.retAddr 0), some (.ref 0), some (.ref 69), some (.ref 87), some (.int z), a5, a6], [.int z, .retAddr 0, .int (xs z468.toNatClampNeg), .ref 69], (m + 0, k + 0), hp463)) rfl rfl ?_
  refine bs_lit (k := 2) rfl rfl fun z469 hz469 => ?_
  refine bs_add rfl (by omega) (by omega) fun z470 hz470 => ?_
  refine ls_sld rfl (by omega) (by omega) ?_
  refine (show Ev _ 1264 ([some (.retAddr 0), some (.ref 0), some (.ref 69), some (.ref 87), some (.int z), a5, a6], [.int (xs z470.toNatClampNeg), .int (xs z468.toNatClampNeg), .ref 69], (m + 0, k + 0), hp463) _ from ?_)
  refine Ev.step (j := 1265) (s' := ([some (.retAddr 0), some (.ref 0), some (.ref 69), some (.ref 87), some (.int z), a5, a6], [.retAddr 0, .int (xs z470.toNatClampNeg), .int (xs z468.toNatClampNeg), .ref 69], (m + 0, k + 0), hp463)) rfl rfl ?_
  refine Ev.step (j := 1267) (s' := ([some (.retAddr 0), some (.ref 0), some (.ref 69), some (.ref 87), some (.int z), a5, a6], [.int z, .retAddr 0, .int (xs z470.toNatClampNeg), .int (xs z468.toNatClampNeg), .ref 69], (m + 0, k + 0), hp463)) rfl rfl ?_
  refine bs_lit (k := 3) rfl rfl fun z471 hz471 => ?_
  refine bs_add rfl (by omega) (by omega) fun z472 hz472 => ?_
  refine ls_sld rfl (by omega) (by omega) ?_
  refine (show Ev _ 1270 ([some (.retAddr 0), some (.ref 0), some (.ref 69), some (.ref 87), some (.int z), a5, a6], [.int (xs z472.toNatClampNeg), .int (xs z470.toNatClampNeg), .int (xs z468.toNatClampNeg), .ref 69], (m + 0, k + 0), hp463) _ from ?_)
  refine bs_call (K := kq_X11_odds_3518ea) [.ref 69, .int (xs z468.toNatClampNeg), .int (xs z470.toNatClampNeg), .int (xs z472.toNatClampNeg)] [] rfl ct_X11_odds_3518ea Hhp463 rfl rfl rfl (bs_rcv (g := 11) Hhp463 (bs_R.uq Hhp463 (g := 11) rfl) (by decide) rfl) (ls_room (Nat.le_of_ble_eq_true rfl) (by omega) (by omega)) ?_ (sf_S_nil) fun r474 hp473 thp473 Hhp473 fhp473 ahp473 php473 => ?_
  · intro q k h
    match q, h with
    | 0, h => cases h; exact bs_jR (bs_R.uq Hhp463 (g := 11) rfl)
    | 1, h => cases h; exact sf_j0
    | 2, h => cases h; exact sf_j0
    | 3, h => cases h; exact sf_j0
    | q + 4, h => cases h
  obtain ⟨z475, rfl⟩ := bs_anI ahp473
  have E476 := lw_keep Hhp463 fhp473 rfl rfl E466
  refine (show Ev _ 1273 ([some (.retAddr 0), some (.ref 0), some (.ref 69), some (.ref 87), some (.int z), a5, a6], [.int z475], (m + 0 + 0, k + 0 + 0), hp473) _ from ?_)
  refine Ev.step (j := 1274) (s' := ([some (.retAddr 0), some (.ref 0), some (.ref 69), some (.ref 87), some (.int z), a5, a6], [], (m + 0 + 0, k + 0 + 0), hp473)) rfl rfl ?_
  refine Ev.step (j := 1440) (s' := ([some (.retAddr 0), some (.ref 0), some (.ref 69), some (.ref 87), some (.int z), a5, a6], [], (m + 0 + 0, k + 0 + 0), hp473)) rfl rfl ?_
  exact K _ _ _ _ _ _ Hhp473 E476 (by omega) (by omega)
set_option maxRecDepth 100000 in
set_option maxHeartbeats 4000000 in
theorem op_log_a {xs : Nat → Int32} {n : Nat} {z : Int32} {a5 a6 : Option Value} {m k : Nat} {hp : ab_H} {t : Nat → Nat} {Q : ab_O → Prop} (H : sf_h t hp) (hs : lw_eq hp) (hz0 : 0 ≤ z.toInt) (hz1 : z.toInt + 6 ≤ n) (hn : n ≤ 3072) (hm : m + 21 ≤ 601024) (hk : k + 410 ≤ 7293034) (h1 : ∀ y : Int32, y.toInt = z.toInt + 1 → 0 ≤ (xs y.toNatClampNeg).toInt ∧ (xs y.toNatClampNeg).toInt ≤ 1) (K : lw_K xs n z m k Q) : Ev (LT xs n) 1277 ([some (.retAddr 0), some (.ref 0), some (.ref 69), some (.ref 87), some (.int z), a5, a6], [], (m, k), hp) Q := by
  refine Ev.step (j := 1278) (s' := ([some (.retAddr 0), some (.ref 0), some (.ref 69), some (.ref 87), some (.int z), a5, a6], [.ref 0], (m, k), hp)) rfl rfl ?_
  refine Ev.step (j := 1279) (s' := ([some (.retAddr 0), some (.ref 0), some (.ref 69), some (.ref 87), some (.int z), a5, a6], [.retAddr 0, .ref 0], (m, k), hp)) rfl rfl ?_
  refine Ev.step (j := 1281) (s' := ([some (.retAddr 0), some (.ref 0), some (.ref 69), some (.ref 87), some (.int z), a5, a6], [.int z, .retAddr 0, .ref 0], (m, k), hp)) rfl rfl ?_
  refine bs_lit (k := 1) rfl rfl fun z477 hz477 => ?_
  refine bs_add rfl (by omega) (by omega) fun z478 hz478 => ?_
  refine ls_sld rfl (by omega) (by omega) ?_
  have gz478 := h1 z478 (by omega)
  have ggz478 := n_range (xs z478.toNatClampNeg)
  refine (show Ev _ 1284 ([some (.retAddr 0), some (.ref 0), some (.ref 69), some (.ref 87), some (.int z), a5, a6], [.int (xs z478.toNatClampNeg), .ref 0], (m, k), hp) _ from ?_)
  refine bs_call (K := kq_X10_log_6a20bc) [.ref 0, .int (xs z478.toNatClampNeg)] [] rfl ct_X10_log_6a20bc H rfl rfl rfl (bs_rcv (g := 10) H (bs_R.uq H (g := 10) rfl) (by decide) rfl) (ls_room (Nat.le_of_ble_eq_true rfl) (by omega) (by omega)) ?_ (sf_S_cons (sf_s1 (x := ((xs z478.toNatClampNeg)).toInt) rfl (by omega) (by omega)) (sf_S_nil)) fun r480 hp479 thp479 Hhp479 fhp479 ahp479 php479 => ?_
  · intro q k h
    match q, h with
    | 0, h => cases h; exact bs_jR (bs_R.uq H (g := 10) rfl)
    | 1, h => cases h; exact sf_j0
    | q + 2, h => cases h
  obtain ⟨z481, rfl⟩ := bs_anI ahp479
  have E482 := lw_keep H fhp479 rfl rfl hs
  refine (show Ev _ 1287 ([some (.retAddr 0), some (.ref 0), some (.ref 69), some (.ref 87), some (.int z), a5, a6], [.int z481], (m + 8, k + 138), hp479) _ from ?_)
  refine Ev.step (j := 1288) (s' := ([some (.retAddr 0), some (.ref 0), some (.ref 69), some (.ref 87), some (.int z), a5, a6], [], (m + 8, k + 138), hp479)) rfl rfl ?_
  refine Ev.step (j := 1289) (s' := ([some (.retAddr 0), some (.ref 0), some (.ref 69), some (.ref 87), some (.int z), a5, a6], [.ref 69], (m + 8, k + 138), hp479)) rfl rfl ?_
  refine Ev.step (j := 1290) (s' := ([some (.retAddr 0), some (.ref 0), some (.ref 69), some (.ref 87), some (.int z), a5, a6], [.retAddr 0, .ref 69], (m + 8, k + 138), hp479)) rfl rfl ?_
  refine Ev.step (j := 1292) (s' := ([some (.retAddr 0), some (.ref 0), some (.ref 69), some (.ref 87), some (.int z), a5, a6], [.int z, .retAddr 0, .ref 69], (m + 8, k + 138), hp479)) rfl rfl ?_
  refine bs_lit (k := 1) rfl rfl fun z483 hz483 => ?_
  refine bs_add rfl (by omega) (by omega) fun z484 hz484 => ?_
  refine ls_sld rfl (by omega) (by omega) ?_
  have gz484 := h1 z484 (by omega)
  have ggz484 := n_range (xs z484.toNatClampNeg)
  refine (show Ev _ 1295 ([some (.retAddr 0), some (.ref 0), some (.ref 69), some (.ref 87), some (.int z), a5, a6], [.int (xs z484.toNatClampNeg), .ref 69], (m + 8, k + 138), hp479) _ from ?_)
  refine bs_call (K := kq_X11_log_h) [.ref 69, .int (xs z484.toNatClampNeg)] [] rfl ct_X11_log_h Hhp479 rfl rfl rfl (bs_rcv (g := 11) Hhp479 (bs_R.uq Hhp479 (g := 11) rfl) (by decide) rfl) (ls_room (Nat.le_of_ble_eq_true rfl) (by omega) (by omega)) ?_ (sf_S_cons (sf_s1 (x := ((xs z484.toNatClampNeg)).toInt) rfl (by omega) (by omega)) (sf_S_nil)) fun r486 hp485 thp485 Hhp485 fhp485 ahp485 php485 => ?_
  · intro q k h
    match q, h with
    | 0, h => cases h; exact bs_jR (bs_R.uq Hhp479 (g := 11) rfl)
    | 1, h => cases h; exact sf_j0
    | q + 2, h => cases h
  obtain ⟨z487, rfl⟩ := bs_anI ahp485
  have E488 := lw_keep Hhp479 fhp485 rfl rfl E482
  refine (show Ev _ 1298 ([some (.retAddr 0), some (.ref 0), some (.ref 69), some (.ref 87), some (.int z), a5, a6], [.int z487], (m + 8 + 0, k + 138 + 0), hp485) _ from ?_)
  refine Ev.step (j := 1299) (s' := ([some (.retAddr 0), some (.ref 0), some (.ref 69), some (.ref 87), some (.int z), a5, a6], [], (m + 8 + 0, k + 138 + 0), hp485)) rfl rfl ?_
  refine Ev.step (j := 1440) (s' := ([some (.retAddr 0), some (.ref 0), some (.ref 69), some (.ref 87), some (.int z), a5, a6], [], (m + 8 + 0, k + 138 + 0), hp485)) rfl rfl ?_
  exact K _ _ _ _ _ _ Hhp485 E488 (by omega) (by omega)
set_option maxRecDepth 100000 in
set_option maxHeartbeats 4000000 in
theorem op_log_b {xs : Nat → Int32} {n : Nat} {z : Int32} {a5 a6 : Option Value} {m k : Nat} {hp : ab_H} {t : Nat → Nat} {Q : ab_O → Prop} (H : sf_h t hp) (hs : lw_eq hp) (hz0 : 0 ≤ z.toInt) (hz1 : z.toInt + 6 ≤ n) (hn : n ≤ 3072) (hm : m + 21 ≤ 601024) (hk : k + 410 ≤ 7293034) (h1 : ∀ y : Int32, y.toInt = z.toInt + 1 → (xs y.toNatClampNeg).toInt ≤ -1) (K : lw_K xs n z m k Q) : Ev (LT xs n) 1277 ([some (.retAddr 0), some (.ref 0), some (.ref 69), some (.ref 87), some (.int z), a5, a6], [], (m, k), hp) Q := by
  refine Ev.step (j := 1278) (s' := ([some (.retAddr 0), some (.ref 0), some (.ref 69), some (.ref 87), some (.int z), a5, a6], [.ref 0], (m, k), hp)) rfl rfl ?_
  refine Ev.step (j := 1279) (s' := ([some (.retAddr 0), some (.ref 0), some (.ref 69), some (.ref 87), some (.int z), a5, a6], [.retAddr 0, .ref 0], (m, k), hp)) rfl rfl ?_
  refine Ev.step (j := 1281) (s' := ([some (.retAddr 0), some (.ref 0), some (.ref 69), some (.ref 87), some (.int z), a5, a6], [.int z, .retAddr 0, .ref 0], (m, k), hp)) rfl rfl ?_
  refine bs_lit (k := 1) rfl rfl fun z489 hz489 => ?_
  refine bs_add rfl (by omega) (by omega) fun z490 hz490 => ?_
  refine ls_sld rfl (by omega) (by omega) ?_
  have gz490 := h1 z490 (by omega)
  have ggz490 := n_range (xs z490.toNatClampNeg)
  refine (show Ev _ 1284 ([some (.retAddr 0), some (.ref 0), some (.ref 69), some (.ref 87), some (.int z), a5, a6], [.int (xs z490.toNatClampNeg), .ref 0], (m, k), hp) _ from ?_)
  refine bs_call (K := kq_X10_log_77e69b) [.ref 0, .int (xs z490.toNatClampNeg)] [] rfl ct_X10_log_77e69b H rfl rfl rfl (bs_rcv (g := 10) H (bs_R.uq H (g := 10) rfl) (by decide) rfl) (ls_room (Nat.le_of_ble_eq_true rfl) (by omega) (by omega)) ?_ (sf_S_cons (sf_s1 (x := ((xs z490.toNatClampNeg)).toInt) rfl (by omega) (by omega)) (sf_S_nil)) fun r492 hp491 thp491 Hhp491 fhp491 ahp491 php491 => ?_
  · intro q k h
    match q, h with
    | 0, h => cases h; exact bs_jR (bs_R.uq H (g := 10) rfl)
    | 1, h => cases h; exact sf_j0
    | q + 2, h => cases h
  obtain ⟨z493, rfl⟩ := bs_anI ahp491
  have E494 := lw_keep H fhp491 rfl rfl hs
  refine (show Ev _ 1287 ([some (.retAddr 0), some (.ref 0), some (.ref 69), some (.ref 87), some (.int z), a5, a6], [.int z493], (m + 8, k + 138), hp491) _ from ?_)
  refine Ev.step (j := 1288) (s' := ([some (.retAddr 0), some (.ref 0), some (.ref 69), some (.ref 87), some (.int z), a5, a6], [], (m + 8, k + 138), hp491)) rfl rfl ?_
  refine Ev.step (j := 1289) (s' := ([some (.retAddr 0), some (.ref 0), some (.ref 69), some (.ref 87), some (.int z), a5, a6], [.ref 69], (m + 8, k + 138), hp491)) rfl rfl ?_
  refine Ev.step (j := 1290) (s' := ([some (.retAddr 0), some (.ref 0), some (.ref 69), some (.ref 87), some (.int z), a5, a6], [.retAddr 0, .ref 69], (m + 8, k + 138), hp491)) rfl rfl ?_
  refine Ev.step (j := 1292) (s' := ([some (.retAddr 0), some (.ref 0), some (.ref 69), some (.ref 87), some (.int z), a5, a6], [.int z, .retAddr 0, .ref 69], (m + 8, k + 138), hp491)) rfl rfl ?_
  refine bs_lit (k := 1) rfl rfl fun z495 hz495 => ?_
  refine bs_add rfl (by omega) (by omega) fun z496 hz496 => ?_
  refine ls_sld rfl (by omega) (by omega) ?_
  have gz496 := h1 z496 (by omega)
  have ggz496 := n_range (xs z496.toNatClampNeg)
  refine (show Ev _ 1295 ([some (.retAddr 0), some (.ref 0), some (.ref 69), some (.ref 87), some (.int z), a5, a6], [.int (xs z496.toNatClampNeg), .ref 69], (m + 8, k + 138), hp491) _ from ?_)
  refine bs_call (K := kq_X11_log_lo) [.ref 69, .int (xs z496.toNatClampNeg)] [] rfl ct_X11_log_lo Hhp491 rfl rfl rfl (bs_rcv (g := 11) Hhp491 (bs_R.uq Hhp491 (g := 11) rfl) (by decide) rfl) (ls_room (Nat.le_of_ble_eq_true rfl) (by omega) (by omega)) ?_ (sf_S_cons (sf_s1 (x := ((xs z496.toNatClampNeg)).toInt) rfl (by omega) (by omega)) (sf_S_nil)) fun r498 hp497 thp497 Hhp497 fhp497 ahp497 php497 => ?_
  · intro q k h
    match q, h with
    | 0, h => cases h; exact bs_jR (bs_R.uq Hhp491 (g := 11) rfl)
    | 1, h => cases h; exact sf_j0
    | q + 2, h => cases h
  obtain ⟨z499, rfl⟩ := bs_anI ahp497
  have E500 := lw_keep Hhp491 fhp497 rfl rfl E494
  refine (show Ev _ 1298 ([some (.retAddr 0), some (.ref 0), some (.ref 69), some (.ref 87), some (.int z), a5, a6], [.int z499], (m + 8 + 0, k + 138 + 0), hp497) _ from ?_)
  refine Ev.step (j := 1299) (s' := ([some (.retAddr 0), some (.ref 0), some (.ref 69), some (.ref 87), some (.int z), a5, a6], [], (m + 8 + 0, k + 138 + 0), hp497)) rfl rfl ?_
  refine Ev.step (j := 1440) (s' := ([some (.retAddr 0), some (.ref 0), some (.ref 69), some (.ref 87), some (.int z), a5, a6], [], (m + 8 + 0, k + 138 + 0), hp497)) rfl rfl ?_
  exact K _ _ _ _ _ _ Hhp497 E500 (by omega) (by omega)
set_option maxRecDepth 100000 in
set_option maxHeartbeats 4000000 in
theorem op_log_c {xs : Nat → Int32} {n : Nat} {z : Int32} {a5 a6 : Option Value} {m k : Nat} {hp : ab_H} {t : Nat → Nat} {Q : ab_O → Prop} (H : sf_h t hp) (hs : lw_eq hp) (hz0 : 0 ≤ z.toInt) (hz1 : z.toInt + 6 ≤ n) (hn : n ≤ 3072) (hm : m + 21 ≤ 601024) (hk : k + 410 ≤ 7293034) (h1 : ∀ y : Int32, y.toInt = z.toInt + 1 → 2 ≤ (xs y.toNatClampNeg).toInt) (K : lw_K xs n z m k Q) : Ev (LT xs n) 1277 ([some (.retAddr 0), some (.ref 0), some (.ref 69), some (.ref 87), some (.int z), a5, a6], [], (m, k), hp) Q := by
  refine Ev.step (j := 1278) (s' := ([some (.retAddr 0), some (.ref 0), some (.ref 69), some (.ref 87), some (.int z), a5, a6], [.ref 0], (m, k), hp)) rfl rfl ?_
  refine Ev.step (j := 1279) (s' := ([some (.retAddr 0), some (.ref 0), some (.ref 69), some (.ref 87), some (.int z), a5, a6], [.retAddr 0, .ref 0], (m, k), hp)) rfl rfl ?_
  refine Ev.step (j := 1281) (s' := ([some (.retAddr 0), some (.ref 0), some (.ref 69), some (.ref 87), some (.int z), a5, a6], [.int z, .retAddr 0, .ref 0], (m, k), hp)) rfl rfl ?_
  refine bs_lit (k := 1) rfl rfl fun z501 hz501 => ?_
  refine bs_add rfl (by omega) (by omega) fun z502 hz502 => ?_
  refine ls_sld rfl (by omega) (by omega) ?_
  have gz502 := h1 z502 (by omega)
  have ggz502 := n_range (xs z502.toNatClampNeg)
  refine (show Ev _ 1284 ([some (.retAddr 0), some (.ref 0), some (.ref 69), some (.ref 87), some (.int z), a5, a6], [.int (xs z502.toNatClampNeg), .ref 0], (m, k), hp) _ from ?_)
  refine bs_call (K := kq_X10_log_75923d) [.ref 0, .int (xs z502.toNatClampNeg)] [] rfl ct_X10_log_75923d H rfl rfl rfl (bs_rcv (g := 10) H (bs_R.uq H (g := 10) rfl) (by decide) rfl) (ls_room (Nat.le_of_ble_eq_true rfl) (by omega) (by omega)) ?_ (sf_S_cons (sf_s1 (x := ((xs z502.toNatClampNeg)).toInt) rfl (by omega) (by omega)) (sf_S_nil)) fun r504 hp503 thp503 Hhp503 fhp503 ahp503 php503 => ?_
  · intro q k h
    match q, h with
    | 0, h => cases h; exact bs_jR (bs_R.uq H (g := 10) rfl)
    | 1, h => cases h; exact sf_j0
    | q + 2, h => cases h
  obtain ⟨z505, rfl⟩ := bs_anI ahp503
  have E506 := lw_keep H fhp503 rfl rfl hs
  refine (show Ev _ 1287 ([some (.retAddr 0), some (.ref 0), some (.ref 69), some (.ref 87), some (.int z), a5, a6], [.int z505], (m + 8, k + 138), hp503) _ from ?_)
  refine Ev.step (j := 1288) (s' := ([some (.retAddr 0), some (.ref 0), some (.ref 69), some (.ref 87), some (.int z), a5, a6], [], (m + 8, k + 138), hp503)) rfl rfl ?_
  refine Ev.step (j := 1289) (s' := ([some (.retAddr 0), some (.ref 0), some (.ref 69), some (.ref 87), some (.int z), a5, a6], [.ref 69], (m + 8, k + 138), hp503)) rfl rfl ?_
  refine Ev.step (j := 1290) (s' := ([some (.retAddr 0), some (.ref 0), some (.ref 69), some (.ref 87), some (.int z), a5, a6], [.retAddr 0, .ref 69], (m + 8, k + 138), hp503)) rfl rfl ?_
  refine Ev.step (j := 1292) (s' := ([some (.retAddr 0), some (.ref 0), some (.ref 69), some (.ref 87), some (.int z), a5, a6], [.int z, .retAddr 0, .ref 69], (m + 8, k + 138), hp503)) rfl rfl ?_
  refine bs_lit (k := 1) rfl rfl fun z507 hz507 => ?_
  refine bs_add rfl (by omega) (by omega) fun z508 hz508 => ?_
  refine ls_sld rfl (by omega) (by omega) ?_
  have gz508 := h1 z508 (by omega)
  have ggz508 := n_range (xs z508.toNatClampNeg)
  refine (show Ev _ 1295 ([some (.retAddr 0), some (.ref 0), some (.ref 69), some (.ref 87), some (.int z), a5, a6], [.int (xs z508.toNatClampNeg), .ref 69], (m + 8, k + 138), hp503) _ from ?_)
  refine bs_call (K := kq_X11_log_hi) [.ref 69, .int (xs z508.toNatClampNeg)] [] rfl ct_X11_log_hi Hhp503 rfl rfl rfl (bs_rcv (g := 11) Hhp503 (bs_R.uq Hhp503 (g := 11) rfl) (by decide) rfl) (ls_room (Nat.le_of_ble_eq_true rfl) (by omega) (by omega)) ?_ (sf_S_cons (sf_s1 (x := ((xs z508.toNatClampNeg)).toInt) rfl (by omega) (by omega)) (sf_S_nil)) fun r510 hp509 thp509 Hhp509 fhp509 ahp509 php509 => ?_
  · intro q k h
    match q, h with
    | 0, h => cases h; exact bs_jR (bs_R.uq Hhp503 (g := 11) rfl)
    | 1, h => cases h; exact sf_j0
    | q + 2, h => cases h
  obtain ⟨z511, rfl⟩ := bs_anI ahp509
  have E512 := lw_keep Hhp503 fhp509 rfl rfl E506
  refine (show Ev _ 1298 ([some (.retAddr 0), some (.ref 0), some (.ref 69), some (.ref 87), some (.int z), a5, a6], [.int z511], (m + 8 + 0, k + 138 + 0), hp509) _ from ?_)
  refine Ev.step (j := 1299) (s' := ([some (.retAddr 0), some (.ref 0), some (.ref 69), some (.ref 87), some (.int z), a5, a6], [], (m + 8 + 0, k + 138 + 0), hp509)) rfl rfl ?_
  refine Ev.step (j := 1440) (s' := ([some (.retAddr 0), some (.ref 0), some (.ref 69), some (.ref 87), some (.int z), a5, a6], [], (m + 8 + 0, k + 138 + 0), hp509)) rfl rfl ?_
  exact K _ _ _ _ _ _ Hhp509 E512 (by omega) (by omega)
set_option maxRecDepth 100000 in
set_option maxHeartbeats 4000000 in
theorem op_logged {xs : Nat → Int32} {n : Nat} {z : Int32} {a5 a6 : Option Value} {m k : Nat} {hp : ab_H} {t : Nat → Nat} {Q : ab_O → Prop} (H : sf_h t hp) (hs : lw_eq hp) (hz0 : 0 ≤ z.toInt) (hz1 : z.toInt + 6 ≤ n) (hn : n ≤ 3072) (hm : m + 21 ≤ 601024) (hk : k + 410 ≤ 7293034) (K : lw_K xs n z m k Q) : Ev (LT xs n) 1302 ([some (.retAddr 0), some (.ref 0), some (.ref 69), some (.ref 87), some (.int z), a5, a6], [], (m, k), hp) Q := by
  refine Ev.step (j := 1303) (s' := ([some (.retAddr 0), some (.ref 0), some (.ref 69), some (.ref 87), some (.int z), a5, a6], [.ref 0], (m, k), hp)) rfl rfl ?_
  refine Ev.step (j := 1304) (s' := ([some (.retAddr 0), some (.ref 0), some (.ref 69), some (.ref 87), some (.int z), a5, a6], [.retAddr 0, .ref 0], (m, k), hp)) rfl rfl ?_
  refine Ev.step (j := 1306) (s' := ([some (.retAddr 0), some (.ref 0), some (.ref 69), some (.ref 87), some (.int z), a5, a6], [.int z, .retAddr 0, .ref 0], (m, k), hp)) rfl rfl ?_
  refine bs_lit (k := 1) rfl rfl fun z513 hz513 => ?_
  refine bs_add rfl (by omega) (by omega) fun z514 hz514 => ?_
  refine ls_sld rfl (by omega) (by omega) ?_
  refine (show Ev _ 1309 ([some (.retAddr 0), some (.ref 0), some (.ref 69), some (.ref 87), some (.int z), a5, a6], [.int (xs z514.toNatClampNeg), .ref 0], (m, k), hp) _ from ?_)
  refine bs_call (K := kq_X10_logged_0df2a5) [.ref 0, .int (xs z514.toNatClampNeg)] [] rfl ct_X10_logged_0df2a5 H rfl rfl rfl (bs_rcv (g := 10) H (bs_R.uq H (g := 10) rfl) (by decide) rfl) (ls_room (Nat.le_of_ble_eq_true rfl) (by omega) (by omega)) ?_ (sf_S_nil) fun r516 hp515 thp515 Hhp515 fhp515 ahp515 php515 => ?_
  · intro q k h
    match q, h with
    | 0, h => cases h; exact bs_jR (bs_R.uq H (g := 10) rfl)
    | 1, h => cases h; exact sf_j0
    | q + 2, h => cases h
  obtain ⟨z517, rfl⟩ := bs_anI ahp515
  have E518 := lw_keep H fhp515 rfl rfl hs
  refine (show Ev _ 1312 ([some (.retAddr 0), some (.ref 0), some (.ref 69), some (.ref 87), some (.int z), a5, a6], [.int z517], (m + 0, k + 0), hp515) _ from ?_)
  refine Ev.step (j := 1313) (s' := ([some (.retAddr 0), some (.ref 0), some (.ref 69), some (.ref 87), some (.int z), a5, a6], [], (m + 0, k + 0), hp515)) rfl rfl ?_
  refine Ev.step (j := 1314) (s' := ([some (.retAddr 0), some (.ref 0), some (.ref 69), some (.ref 87), some (.int z), a5, a6], [.ref 69], (m + 0, k + 0), hp515)) rfl rfl ?_
  refine Ev.step (j := 1315) (s' := ([some (.retAddr 0), some (.ref 0), some (.ref 69), some (.ref 87), some (.int z), a5, a6], [.retAddr 0, .ref 69], (m + 0, k + 0), hp515)) rfl rfl ?_
  refine Ev.step (j := 1317) (s' := ([some (.retAddr 0), some (.ref 0), some (.ref 69), some (.ref 87), some (.int z), a5, a6], [.int z, .retAddr 0, .ref 69], (m + 0, k + 0), hp515)) rfl rfl ?_
  refine bs_lit (k := 1) rfl rfl fun z519 hz519 => ?_
  refine bs_add rfl (by omega) (by omega) fun z520 hz520 => ?_
  refine ls_sld rfl (by omega) (by omega) ?_
  refine (show Ev _ 1320 ([some (.retAddr 0), some (.ref 0), some (.ref 69), some (.ref 87), some (.int z), a5, a6], [.int (xs z520.toNatClampNeg), .ref 69], (m + 0, k + 0), hp515) _ from ?_)
  refine bs_call (K := kq_X11_logged_3d45d6) [.ref 69, .int (xs z520.toNatClampNeg)] [] rfl ct_X11_logged_3d45d6 Hhp515 rfl rfl rfl (bs_rcv (g := 11) Hhp515 (bs_R.uq Hhp515 (g := 11) rfl) (by decide) rfl) (ls_room (Nat.le_of_ble_eq_true rfl) (by omega) (by omega)) ?_ (sf_S_nil) fun r522 hp521 thp521 Hhp521 fhp521 ahp521 php521 => ?_
  · intro q k h
    match q, h with
    | 0, h => cases h; exact bs_jR (bs_R.uq Hhp515 (g := 11) rfl)
    | 1, h => cases h; exact sf_j0
    | q + 2, h => cases h
  obtain ⟨z523, rfl⟩ := bs_anI ahp521
  have E524 := lw_keep Hhp515 fhp521 rfl rfl E518
  refine (show Ev _ 1323 ([some (.retAddr 0), some (.ref 0), some (.ref 69), some (.ref 87), some (.int z), a5, a6], [.int z523], (m + 0 + 0, k + 0 + 0), hp521) _ from ?_)
  refine Ev.step (j := 1324) (s' := ([some (.retAddr 0), some (.ref 0), some (.ref 69), some (.ref 87), some (.int z), a5, a6], [], (m + 0 + 0, k + 0 + 0), hp521)) rfl rfl ?_
  refine Ev.step (j := 1440) (s' := ([some (.retAddr 0), some (.ref 0), some (.ref 69), some (.ref 87), some (.int z), a5, a6], [], (m + 0 + 0, k + 0 + 0), hp521)) rfl rfl ?_
  exact K _ _ _ _ _ _ Hhp521 E524 (by omega) (by omega)
set_option maxRecDepth 100000 in
set_option maxHeartbeats 4000000 in
theorem op_sentence {xs : Nat → Int32} {n : Nat} {z : Int32} {a5 a6 : Option Value} {m k : Nat} {hp : ab_H} {t : Nat → Nat} {Q : ab_O → Prop} (H : sf_h t hp) (hs : lw_eq hp) (hz0 : 0 ≤ z.toInt) (hz1 : z.toInt + 6 ≤ n) (hn : n ≤ 3072) (hm : m + 21 ≤ 601024) (hk : k + 410 ≤ 7293034) (K : lw_K xs n z m k Q) : Ev (LT xs n) 1327 ([some (.retAddr 0), some (.ref 0), some (.ref 69), some (.ref 87), some (.int z), a5, a6], [], (m, k), hp) Q := by
  refine Ev.step (j := 1328) (s' := ([some (.retAddr 0), some (.ref 0), some (.ref 69), some (.ref 87), some (.int z), a5, a6], [.ref 0], (m, k), hp)) rfl rfl ?_
  refine bs_call (K := kq_X10_sentence_4c18a7) [.ref 0] [] rfl ct_X10_sentence_4c18a7 H rfl rfl rfl (bs_rcv (g := 10) H (bs_R.uq H (g := 10) rfl) (by decide) rfl) (ls_room (Nat.le_of_ble_eq_true rfl) (by omega) (by omega)) ?_ (sf_S_nil) fun r526 hp525 thp525 Hhp525 fhp525 ahp525 php525 => ?_
  · intro q k h
    match q, h with
    | 0, h => cases h; exact bs_jR (bs_R.uq H (g := 10) rfl)
    | q + 1, h => cases h
  obtain ⟨z527, rfl⟩ := bs_anI ahp525
  have E528 := lw_keep H fhp525 rfl rfl hs
  refine (show Ev _ 1331 ([some (.retAddr 0), some (.ref 0), some (.ref 69), some (.ref 87), some (.int z), a5, a6], [.int z527], (m + 0, k + 0), hp525) _ from ?_)
  refine Ev.step (j := 1332) (s' := ([some (.retAddr 0), some (.ref 0), some (.ref 69), some (.ref 87), some (.int z), a5, a6], [], (m + 0, k + 0), hp525)) rfl rfl ?_
  refine Ev.step (j := 1333) (s' := ([some (.retAddr 0), some (.ref 0), some (.ref 69), some (.ref 87), some (.int z), a5, a6], [.ref 69], (m + 0, k + 0), hp525)) rfl rfl ?_
  refine bs_call (K := kq_X11_sentence_h) [.ref 69] [] rfl ct_X11_sentence_h Hhp525 rfl rfl rfl (bs_rcv (g := 11) Hhp525 (bs_R.uq Hhp525 (g := 11) rfl) (by decide) rfl) (ls_room (Nat.le_of_ble_eq_true rfl) (by omega) (by omega)) ?_ (sf_S_nil) fun r530 hp529 thp529 Hhp529 fhp529 ahp529 php529 => ?_
  · intro q k h
    match q, h with
    | 0, h => cases h; exact bs_jR (bs_R.uq Hhp525 (g := 11) rfl)
    | q + 1, h => cases h
  obtain ⟨z531, rfl⟩ := bs_anI ahp529
  have E532 := lw_keep Hhp525 fhp529 rfl rfl E528
  refine (show Ev _ 1336 ([some (.retAddr 0), some (.ref 0), some (.ref 69), some (.ref 87), some (.int z), a5, a6], [.int z531], (m + 0 + 0, k + 0 + 0), hp529) _ from ?_)
  refine Ev.step (j := 1337) (s' := ([some (.retAddr 0), some (.ref 0), some (.ref 69), some (.ref 87), some (.int z), a5, a6], [], (m + 0 + 0, k + 0 + 0), hp529)) rfl rfl ?_
  refine Ev.step (j := 1440) (s' := ([some (.retAddr 0), some (.ref 0), some (.ref 69), some (.ref 87), some (.int z), a5, a6], [], (m + 0 + 0, k + 0 + 0), hp529)) rfl rfl ?_
  exact K _ _ _ _ _ _ Hhp529 E532 (by omega) (by omega)
set_option maxRecDepth 100000 in
set_option maxHeartbeats 4000000 in
theorem op_said {xs : Nat → Int32} {n : Nat} {z : Int32} {a5 a6 : Option Value} {m k : Nat} {hp : ab_H} {t : Nat → Nat} {Q : ab_O → Prop} (H : sf_h t hp) (hs : lw_eq hp) (hz0 : 0 ≤ z.toInt) (hz1 : z.toInt + 6 ≤ n) (hn : n ≤ 3072) (hm : m + 21 ≤ 601024) (hk : k + 410 ≤ 7293034) (K : lw_K xs n z m k Q) : Ev (LT xs n) 1340 ([some (.retAddr 0), some (.ref 0), some (.ref 69), some (.ref 87), some (.int z), a5, a6], [], (m, k), hp) Q := by
  refine Ev.step (j := 1341) (s' := ([some (.retAddr 0), some (.ref 0), some (.ref 69), some (.ref 87), some (.int z), a5, a6], [.ref 0], (m, k), hp)) rfl rfl ?_
  refine Ev.step (j := 1342) (s' := ([some (.retAddr 0), some (.ref 0), some (.ref 69), some (.ref 87), some (.int z), a5, a6], [.retAddr 0, .ref 0], (m, k), hp)) rfl rfl ?_
  refine Ev.step (j := 1344) (s' := ([some (.retAddr 0), some (.ref 0), some (.ref 69), some (.ref 87), some (.int z), a5, a6], [.int z, .retAddr 0, .ref 0], (m, k), hp)) rfl rfl ?_
  refine bs_lit (k := 1) rfl rfl fun z533 hz533 => ?_
  refine bs_add rfl (by omega) (by omega) fun z534 hz534 => ?_
  refine ls_sld rfl (by omega) (by omega) ?_
  refine (show Ev _ 1347 ([some (.retAddr 0), some (.ref 0), some (.ref 69), some (.ref 87), some (.int z), a5, a6], [.int (xs z534.toNatClampNeg), .ref 0], (m, k), hp) _ from ?_)
  refine bs_call (K := kq_X10_said_0df2a5) [.ref 0, .int (xs z534.toNatClampNeg)] [] rfl ct_X10_said_0df2a5 H rfl rfl rfl (bs_rcv (g := 10) H (bs_R.uq H (g := 10) rfl) (by decide) rfl) (ls_room (Nat.le_of_ble_eq_true rfl) (by omega) (by omega)) ?_ (sf_S_nil) fun r536 hp535 thp535 Hhp535 fhp535 ahp535 php535 => ?_
  · intro q k h
    match q, h with
    | 0, h => cases h; exact bs_jR (bs_R.uq H (g := 10) rfl)
    | 1, h => cases h; exact sf_j0
    | q + 2, h => cases h
  obtain ⟨z537, rfl⟩ := bs_anI ahp535
  have E538 := lw_keep H fhp535 rfl rfl hs
  refine (show Ev _ 1350 ([some (.retAddr 0), some (.ref 0), some (.ref 69), some (.ref 87), some (.int z), a5, a6], [.int z537], (m + 0, k + 0), hp535) _ from ?_)
  refine Ev.step (j := 1351) (s' := ([some (.retAddr 0), some (.ref 0), some (.ref 69), some (.ref 87), some (.int z), a5, a6], [], (m + 0, k + 0), hp535)) rfl rfl ?_
  refine Ev.step (j := 1352) (s' := ([some (.retAddr 0), some (.ref 0), some (.ref 69), some (.ref 87), some (.int z), a5, a6], [.ref 69], (m + 0, k + 0), hp535)) rfl rfl ?_
  refine Ev.step (j := 1353) (s' := ([some (.retAddr 0), some (.ref 0), some (.ref 69), some (.ref 87), some (.int z), a5, a6], [.retAddr 0, .ref 69], (m + 0, k + 0), hp535)) rfl rfl ?_
  refine Ev.step (j := 1355) (s' := ([some (.retAddr 0), some (.ref 0), some (.ref 69), some (.ref 87), some (.int z), a5, a6], [.int z, .retAddr 0, .ref 69], (m + 0, k + 0), hp535)) rfl rfl ?_
  refine bs_lit (k := 1) rfl rfl fun z539 hz539 => ?_
  refine bs_add rfl (by omega) (by omega) fun z540 hz540 => ?_
  refine ls_sld rfl (by omega) (by omega) ?_
  refine (show Ev _ 1358 ([some (.retAddr 0), some (.ref 0), some (.ref 69), some (.ref 87), some (.int z), a5, a6], [.int (xs z540.toNatClampNeg), .ref 69], (m + 0, k + 0), hp535) _ from ?_)
  refine bs_call (K := kq_X11_said_3d45d6) [.ref 69, .int (xs z540.toNatClampNeg)] [] rfl ct_X11_said_3d45d6 Hhp535 rfl rfl rfl (bs_rcv (g := 11) Hhp535 (bs_R.uq Hhp535 (g := 11) rfl) (by decide) rfl) (ls_room (Nat.le_of_ble_eq_true rfl) (by omega) (by omega)) ?_ (sf_S_nil) fun r542 hp541 thp541 Hhp541 fhp541 ahp541 php541 => ?_
  · intro q k h
    match q, h with
    | 0, h => cases h; exact bs_jR (bs_R.uq Hhp535 (g := 11) rfl)
    | 1, h => cases h; exact sf_j0
    | q + 2, h => cases h
  obtain ⟨z543, rfl⟩ := bs_anI ahp541
  have E544 := lw_keep Hhp535 fhp541 rfl rfl E538
  refine (show Ev _ 1361 ([some (.retAddr 0), some (.ref 0), some (.ref 69), some (.ref 87), some (.int z), a5, a6], [.int z543], (m + 0 + 0, k + 0 + 0), hp541) _ from ?_)
  refine Ev.step (j := 1362) (s' := ([some (.retAddr 0), some (.ref 0), some (.ref 69), some (.ref 87), some (.int z), a5, a6], [], (m + 0 + 0, k + 0 + 0), hp541)) rfl rfl ?_
  refine Ev.step (j := 1440) (s' := ([some (.retAddr 0), some (.ref 0), some (.ref 69), some (.ref 87), some (.int z), a5, a6], [], (m + 0 + 0, k + 0 + 0), hp541)) rfl rfl ?_
  exact K _ _ _ _ _ _ Hhp541 E544 (by omega) (by omega)
set_option maxRecDepth 100000 in
set_option maxHeartbeats 4000000 in
theorem op_image {xs : Nat → Int32} {n : Nat} {z : Int32} {a5 a6 : Option Value} {m k : Nat} {hp : ab_H} {t : Nat → Nat} {Q : ab_O → Prop} (H : sf_h t hp) (hs : lw_eq hp) (hz0 : 0 ≤ z.toInt) (hz1 : z.toInt + 6 ≤ n) (hn : n ≤ 3072) (hm : m + 21 ≤ 601024) (hk : k + 410 ≤ 7293034) (K : lw_K xs n z m k Q) : Ev (LT xs n) 1365 ([some (.retAddr 0), some (.ref 0), some (.ref 69), some (.ref 87), some (.int z), a5, a6], [], (m, k), hp) Q := by
  refine Ev.step (j := 1366) (s' := ([some (.retAddr 0), some (.ref 0), some (.ref 69), some (.ref 87), some (.int z), a5, a6], [.ref 0], (m, k), hp)) rfl rfl ?_
  refine Ev.step (j := 1367) (s' := ([some (.retAddr 0), some (.ref 0), some (.ref 69), some (.ref 87), some (.int z), a5, a6], [.retAddr 0, .ref 0], (m, k), hp)) rfl rfl ?_
  refine Ev.step (j := 1369) (s' := ([some (.retAddr 0), some (.ref 0), some (.ref 69), some (.ref 87), some (.int z), a5, a6], [.int z, .retAddr 0, .ref 0], (m, k), hp)) rfl rfl ?_
  refine bs_lit (k := 1) rfl rfl fun z545 hz545 => ?_
  refine bs_add rfl (by omega) (by omega) fun z546 hz546 => ?_
  refine ls_sld rfl (by omega) (by omega) ?_
  refine (show Ev _ 1372 ([some (.retAddr 0), some (.ref 0), some (.ref 69), some (.ref 87), some (.int z), a5, a6], [.int (xs z546.toNatClampNeg), .ref 0], (m, k), hp) _ from ?_)
  refine bs_callx (K := kq_X10_image_k) [.ref 0, .int (xs z546.toNatClampNeg)] [] rfl ce_X10_image_k H rfl rfl rfl (bs_rcv (g := 10) H (bs_R.uq H (g := 10) rfl) (by decide) rfl) (ls_room (Nat.le_of_ble_eq_true rfl) (by omega) (by omega)) ?_ (sf_S_nil) fun r548 hp547 thp547 Hhp547 fhp547 ahp547 php547 xhp547 => ?_
  · intro q k h
    match q, h with
    | 0, h => cases h; exact bs_jR (bs_R.uq H (g := 10) rfl)
    | 1, h => cases h; exact sf_j0
    | q + 2, h => cases h
  obtain ⟨z549, rfl⟩ := bs_anI ahp547
  obtain ⟨⟨w1, ew1, ez1⟩, i1a, i1b⟩ := xhp547 _ rfl
  obtain rfl := Value.int.inj (Option.some.inj ew1)
  refine (show Ev _ 1375 ([some (.retAddr 0), some (.ref 0), some (.ref 69), some (.ref 87), some (.int z), a5, a6], [.int z549], (m + 21, k + 410), hp547) _ from ?_)
  refine Ev.step (j := 1376) (s' := ([some (.retAddr 0), some (.ref 0), some (.ref 69), some (.ref 87), some (.int z), a5, a6], [], (m + 21, k + 410), hp547)) rfl rfl ?_
  refine Ev.step (j := 1377) (s' := ([some (.retAddr 0), some (.ref 0), some (.ref 69), some (.ref 87), some (.int z), a5, a6], [.ref 69], (m + 21, k + 410), hp547)) rfl rfl ?_
  refine Ev.step (j := 1378) (s' := ([some (.retAddr 0), some (.ref 0), some (.ref 69), some (.ref 87), some (.int z), a5, a6], [.retAddr 0, .ref 69], (m + 21, k + 410), hp547)) rfl rfl ?_
  refine Ev.step (j := 1380) (s' := ([some (.retAddr 0), some (.ref 0), some (.ref 69), some (.ref 87), some (.int z), a5, a6], [.int z, .retAddr 0, .ref 69], (m + 21, k + 410), hp547)) rfl rfl ?_
  refine bs_lit (k := 1) rfl rfl fun z550 hz550 => ?_
  refine bs_add rfl (by omega) (by omega) fun z551 hz551 => ?_
  refine ls_sld rfl (by omega) (by omega) ?_
  refine (show Ev _ 1383 ([some (.retAddr 0), some (.ref 0), some (.ref 69), some (.ref 87), some (.int z), a5, a6], [.int (xs z551.toNatClampNeg), .ref 69], (m + 21, k + 410), hp547) _ from ?_)
  refine bs_callx (K := kq_X11_image_k) [.ref 69, .int (xs z551.toNatClampNeg)] [] rfl ce_X11_image_k Hhp547 rfl rfl rfl (bs_rcv (g := 11) Hhp547 (bs_R.uq Hhp547 (g := 11) rfl) (by decide) rfl) (ls_room (Nat.le_of_ble_eq_true rfl) (by omega) (by omega)) ?_ (sf_S_nil) fun r553 hp552 thp552 Hhp552 fhp552 ahp552 php552 xhp552 => ?_
  · intro q k h
    match q, h with
    | 0, h => cases h; exact bs_jR (bs_R.uq Hhp547 (g := 11) rfl)
    | 1, h => cases h; exact sf_j0
    | q + 2, h => cases h
  obtain ⟨z554, rfl⟩ := bs_anI ahp552
  obtain ⟨⟨w2, ew2, ez2⟩, i2a, i2b⟩ := xhp552 _ rfl
  obtain rfl := Value.int.inj (Option.some.inj ew2)
  rw [show z551 = z546 from Int32.toInt_inj.mp (by omega)] at ez2 i2a i2b
  have E := RI_image H Hhp547 fhp547 fhp552 rfl rfl hs i1a i1b i2a i2b
  refine (show Ev _ 1386 ([some (.retAddr 0), some (.ref 0), some (.ref 69), some (.ref 87), some (.int z), a5, a6], [.int z554], (m + 21 + 0, k + 410 + 0), hp552) _ from ?_)
  refine Ev.step (j := 1387) (s' := ([some (.retAddr 0), some (.ref 0), some (.ref 69), some (.ref 87), some (.int z), a5, a6], [], (m + 21 + 0, k + 410 + 0), hp552)) rfl rfl ?_
  refine Ev.step (j := 1440) (s' := ([some (.retAddr 0), some (.ref 0), some (.ref 69), some (.ref 87), some (.int z), a5, a6], [], (m + 21 + 0, k + 410 + 0), hp552)) rfl rfl ?_
  exact K _ _ _ _ _ _ Hhp552 E (by omega) (by omega)
set_option maxRecDepth 100000 in
set_option maxHeartbeats 4000000 in
theorem op_restore {xs : Nat → Int32} {n : Nat} {z : Int32} {a5 a6 : Option Value} {m k : Nat} {hp : ab_H} {t : Nat → Nat} {Q : ab_O → Prop} (H : sf_h t hp) (hs : lw_eq hp) (hz0 : 0 ≤ z.toInt) (hz1 : z.toInt + 6 ≤ n) (hn : n ≤ 3072) (hm : m + 21 ≤ 601024) (hk : k + 410 ≤ 7293034) (K : lw_K xs n z m k Q) : Ev (LT xs n) 1390 ([some (.retAddr 0), some (.ref 0), some (.ref 69), some (.ref 87), some (.int z), a5, a6], [], (m, k), hp) Q := by
  refine Ev.step (j := 1391) (s' := ([some (.retAddr 0), some (.ref 0), some (.ref 69), some (.ref 87), some (.int z), a5, a6], [.ref 0], (m, k), hp)) rfl rfl ?_
  refine Ev.step (j := 1392) (s' := ([some (.retAddr 0), some (.ref 0), some (.ref 69), some (.ref 87), some (.int z), a5, a6], [.retAddr 0, .ref 0], (m, k), hp)) rfl rfl ?_
  refine Ev.step (j := 1394) (s' := ([some (.retAddr 0), some (.ref 0), some (.ref 69), some (.ref 87), some (.int z), a5, a6], [.int z, .retAddr 0, .ref 0], (m, k), hp)) rfl rfl ?_
  refine bs_lit (k := 1) rfl rfl fun z555 hz555 => ?_
  refine bs_add rfl (by omega) (by omega) fun z556 hz556 => ?_
  refine ls_sld rfl (by omega) (by omega) ?_
  refine (show Ev _ 1397 ([some (.retAddr 0), some (.ref 0), some (.ref 69), some (.ref 87), some (.int z), a5, a6], [.int (xs z556.toNatClampNeg), .ref 0], (m, k), hp) _ from ?_)
  refine bs_callx (K := kq_X10_restore_r) [.ref 0, .int (xs z556.toNatClampNeg)] [] rfl ce_X10_restore_r H rfl rfl rfl (bs_rcv (g := 10) H (bs_R.uq H (g := 10) rfl) (by decide) rfl) (ls_room (Nat.le_of_ble_eq_true rfl) (by omega) (by omega)) ?_ (sf_S_nil) fun r558 hp557 thp557 Hhp557 fhp557 ahp557 php557 xhp557 => ?_
  · intro q k h
    match q, h with
    | 0, h => cases h; exact bs_jR (bs_R.uq H (g := 10) rfl)
    | 1, h => cases h; exact sf_j0
    | q + 2, h => cases h
  obtain ⟨z559, rfl⟩ := bs_anI ahp557
  obtain ⟨w1, ew1, ez1⟩ := xhp557 _ rfl
  obtain rfl := Value.int.inj (Option.some.inj ew1)
  have E1 := lw_keep H fhp557 rfl rfl hs
  have ER := RI_z (x := ((xs z556.toNatClampNeg)).toInt) E1
  rw [im_fr H fhp557 rfl] at ER
  refine (show Ev _ 1400 ([some (.retAddr 0), some (.ref 0), some (.ref 69), some (.ref 87), some (.int z), a5, a6], [.int z559], (m + 0, k + 0), hp557) _ from ?_)
  refine Ev.step (j := 1401) (s' := ([some (.retAddr 0), some (.ref 0), some (.ref 69), some (.ref 87), some (.int z), a5, a6], [.ref 69, .int z559], (m + 0, k + 0), hp557)) rfl rfl ?_
  refine Ev.step (j := 1402) (s' := ([some (.retAddr 0), some (.ref 0), some (.ref 69), some (.ref 87), some (.int z), a5, a6], [.retAddr 0, .ref 69, .int z559], (m + 0, k + 0), hp557)) rfl rfl ?_
  refine Ev.step (j := 1404) (s' := ([some (.retAddr 0), some (.ref 0), some (.ref 69), some (.ref 87), some (.int z), a5, a6], [.int z, .retAddr 0, .ref 69, .int z559], (m + 0, k + 0), hp557)) rfl rfl ?_
  refine bs_lit (k := 1) rfl rfl fun z560 hz560 => ?_
  refine bs_add rfl (by omega) (by omega) fun z561 hz561 => ?_
  refine ls_sld rfl (by omega) (by omega) ?_
  refine (show Ev _ 1407 ([some (.retAddr 0), some (.ref 0), some (.ref 69), some (.ref 87), some (.int z), a5, a6], [.int (xs z561.toNatClampNeg), .ref 69, .int z559], (m + 0, k + 0), hp557) _ from ?_)
  refine bs_callx (K := kq_X11_restore_r) [.ref 69, .int (xs z561.toNatClampNeg)] [.int z559] rfl ce_X11_restore_r Hhp557 rfl rfl rfl (bs_rcv (g := 11) Hhp557 (bs_R.uq Hhp557 (g := 11) rfl) (by decide) rfl) (ls_room (Nat.le_of_ble_eq_true rfl) (by omega) (by omega)) ?_ (sf_S_nil) fun r563 hp562 thp562 Hhp562 fhp562 ahp562 php562 xhp562 => ?_
  · intro q k h
    match q, h with
    | 0, h => cases h; exact bs_jR (bs_R.uq Hhp557 (g := 11) rfl)
    | 1, h => cases h; exact sf_j0
    | q + 2, h => cases h
  obtain ⟨z564, rfl⟩ := bs_anI ahp562
  obtain ⟨w2, ew2, ez2⟩ := xhp562 _ rfl
  obtain rfl := Value.int.inj (Option.some.inj ew2)
  rw [show z561 = z556 from Int32.toInt_inj.mp (by omega)] at ez2
  have E := lw_keep Hhp557 fhp562 rfl rfl E1
  refine (show Ev _ 1410 ([some (.retAddr 0), some (.ref 0), some (.ref 69), some (.ref 87), some (.int z), a5, a6], [.int z564, .int z559], (m + 0 + 0, k + 0 + 0), hp562) _ from ?_)
  refine bs_eq rfl (fun c => ?_) (fun c => absurd (by omega) c)
  exact K _ _ _ _ _ _ Hhp562 E (by omega) (by omega)
set_option maxRecDepth 100000 in
set_option maxHeartbeats 4000000 in
theorem op_count {xs : Nat → Int32} {n : Nat} {z : Int32} {a5 a6 : Option Value} {m k : Nat} {hp : ab_H} {t : Nat → Nat} {Q : ab_O → Prop} (H : sf_h t hp) (hs : lw_eq hp) (hz0 : 0 ≤ z.toInt) (hz1 : z.toInt + 6 ≤ n) (hn : n ≤ 3072) (hm : m + 21 ≤ 601024) (hk : k + 410 ≤ 7293034) (K : lw_K xs n z m k Q) : Ev (LT xs n) 1415 ([some (.retAddr 0), some (.ref 0), some (.ref 69), some (.ref 87), some (.int z), a5, a6], [], (m, k), hp) Q := by
  refine Ev.step (j := 1416) (s' := ([some (.retAddr 0), some (.ref 0), some (.ref 69), some (.ref 87), some (.int z), a5, a6], [.ref 0], (m, k), hp)) rfl rfl ?_
  refine Ev.step (j := 1417) (s' := ([some (.retAddr 0), some (.ref 0), some (.ref 69), some (.ref 87), some (.int z), a5, a6], [.retAddr 0, .ref 0], (m, k), hp)) rfl rfl ?_
  refine Ev.step (j := 1419) (s' := ([some (.retAddr 0), some (.ref 0), some (.ref 69), some (.ref 87), some (.int z), a5, a6], [.int z, .retAddr 0, .ref 0], (m, k), hp)) rfl rfl ?_
  refine bs_lit (k := 1) rfl rfl fun z565 hz565 => ?_
  refine bs_add rfl (by omega) (by omega) fun z566 hz566 => ?_
  refine ls_sld rfl (by omega) (by omega) ?_
  refine (show Ev _ 1422 ([some (.retAddr 0), some (.ref 0), some (.ref 69), some (.ref 87), some (.int z), a5, a6], [.int (xs z566.toNatClampNeg), .ref 0], (m, k), hp) _ from ?_)
  refine bs_call (K := kq_X10_count_0df2a5) [.ref 0, .int (xs z566.toNatClampNeg)] [] rfl ct_X10_count_0df2a5 H rfl rfl rfl (bs_rcv (g := 10) H (bs_R.uq H (g := 10) rfl) (by decide) rfl) (ls_room (Nat.le_of_ble_eq_true rfl) (by omega) (by omega)) ?_ (sf_S_nil) fun r568 hp567 thp567 Hhp567 fhp567 ahp567 php567 => ?_
  · intro q k h
    match q, h with
    | 0, h => cases h; exact bs_jR (bs_R.uq H (g := 10) rfl)
    | 1, h => cases h; exact sf_j0
    | q + 2, h => cases h
  obtain ⟨z569, rfl⟩ := bs_anI ahp567
  have E570 := lw_keep H fhp567 rfl rfl hs
  refine (show Ev _ 1425 ([some (.retAddr 0), some (.ref 0), some (.ref 69), some (.ref 87), some (.int z), a5, a6], [.int z569], (m + 0, k + 0), hp567) _ from ?_)
  refine Ev.step (j := 1426) (s' := ([some (.retAddr 0), some (.ref 0), some (.ref 69), some (.ref 87), some (.int z), a5, a6], [], (m + 0, k + 0), hp567)) rfl rfl ?_
  refine Ev.step (j := 1427) (s' := ([some (.retAddr 0), some (.ref 0), some (.ref 69), some (.ref 87), some (.int z), a5, a6], [.ref 69], (m + 0, k + 0), hp567)) rfl rfl ?_
  refine Ev.step (j := 1428) (s' := ([some (.retAddr 0), some (.ref 0), some (.ref 69), some (.ref 87), some (.int z), a5, a6], [.retAddr 0, .ref 69], (m + 0, k + 0), hp567)) rfl rfl ?_
  refine Ev.step (j := 1430) (s' := ([some (.retAddr 0), some (.ref 0), some (.ref 69), some (.ref 87), some (.int z), a5, a6], [.int z, .retAddr 0, .ref 69], (m + 0, k + 0), hp567)) rfl rfl ?_
  refine bs_lit (k := 1) rfl rfl fun z571 hz571 => ?_
  refine bs_add rfl (by omega) (by omega) fun z572 hz572 => ?_
  refine ls_sld rfl (by omega) (by omega) ?_
  refine (show Ev _ 1433 ([some (.retAddr 0), some (.ref 0), some (.ref 69), some (.ref 87), some (.int z), a5, a6], [.int (xs z572.toNatClampNeg), .ref 69], (m + 0, k + 0), hp567) _ from ?_)
  refine bs_call (K := kq_X11_count_3d45d6) [.ref 69, .int (xs z572.toNatClampNeg)] [] rfl ct_X11_count_3d45d6 Hhp567 rfl rfl rfl (bs_rcv (g := 11) Hhp567 (bs_R.uq Hhp567 (g := 11) rfl) (by decide) rfl) (ls_room (Nat.le_of_ble_eq_true rfl) (by omega) (by omega)) ?_ (sf_S_nil) fun r574 hp573 thp573 Hhp573 fhp573 ahp573 php573 => ?_
  · intro q k h
    match q, h with
    | 0, h => cases h; exact bs_jR (bs_R.uq Hhp567 (g := 11) rfl)
    | 1, h => cases h; exact sf_j0
    | q + 2, h => cases h
  obtain ⟨z575, rfl⟩ := bs_anI ahp573
  have E576 := lw_keep Hhp567 fhp573 rfl rfl E570
  refine (show Ev _ 1436 ([some (.retAddr 0), some (.ref 0), some (.ref 69), some (.ref 87), some (.int z), a5, a6], [.int z575], (m + 0 + 0, k + 0 + 0), hp573) _ from ?_)
  refine Ev.step (j := 1437) (s' := ([some (.retAddr 0), some (.ref 0), some (.ref 69), some (.ref 87), some (.int z), a5, a6], [], (m + 0 + 0, k + 0 + 0), hp573)) rfl rfl ?_
  refine Ev.step (j := 1440) (s' := ([some (.retAddr 0), some (.ref 0), some (.ref 69), some (.ref 87), some (.int z), a5, a6], [], (m + 0 + 0, k + 0 + 0), hp573)) rfl rfl ?_
  exact K _ _ _ _ _ _ Hhp573 E576 (by omega) (by omega)
