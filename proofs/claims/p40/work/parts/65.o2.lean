set_option maxRecDepth 100000 in
set_option maxHeartbeats 4000000 in
theorem op_price {xs : Nat → Int32} {n : Nat} {z : Int32} {a5 a6 : Option Value} {m k : Nat} {hp : ab_H} {t : Nat → Nat} {Q : ab_O → Prop} (H : sf_h t hp) (hs : lw_eq hp) (hz0 : 0 ≤ z.toInt) (hz1 : z.toInt + 6 ≤ n) (hn : n ≤ 3072) (hm : m + 21 ≤ 601024) (hk : k + 410 ≤ 7293034) (K : lw_K xs n z m k Q) : Ev (LT xs n) 1103 ([some (.retAddr 0), some (.ref 0), some (.ref 69), some (.ref 87), some (.int z), a5, a6], [], (m, k), hp) Q := by
  refine Ev.step (j := 1104) (s' := ([some (.retAddr 0), some (.ref 0), some (.ref 69), some (.ref 87), some (.int z), a5, a6], [.ref 0], (m, k), hp)) rfl rfl ?_
  refine Ev.step (j := 1105) (s' := ([some (.retAddr 0), some (.ref 0), some (.ref 69), some (.ref 87), some (.int z), a5, a6], [.retAddr 0, .ref 0], (m, k), hp)) rfl rfl ?_
  refine Ev.step (j := 1107) (s' := ([some (.retAddr 0), some (.ref 0), some (.ref 69), some (.ref 87), some (.int z), a5, a6], [.int z, .retAddr 0, .ref 0], (m, k), hp)) rfl rfl ?_
  refine bs_lit (k := 1) rfl rfl fun z341 hz341 => ?_
  refine bs_add rfl (by omega) (by omega) fun z342 hz342 => ?_
  refine ls_sld rfl (by omega) (by omega) ?_
  refine (show Ev _ 1110 ([some (.retAddr 0), some (.ref 0), some (.ref 69), some (.ref 87), some (.int z), a5, a6], [.int (xs z342.toNatClampNeg), .ref 0], (m, k), hp) _ from ?_)
  refine Ev.step (j := 1111) (s' := ([some (.retAddr 0), some (.ref 0), some (.ref 69), some (.ref 87), some (.int z), a5, a6], [.retAddr 0, .int (xs z342.toNatClampNeg), .ref 0], (m, k), hp)) rfl rfl ?_
  refine Ev.step (j := 1113) (s' := ([some (.retAddr 0), some (.ref 0), some (.ref 69), some (.ref 87), some (.int z), a5, a6], [.int z, .retAddr 0, .int (xs z342.toNatClampNeg), .ref 0], (m, k), hp)) rfl rfl ?_
  refine bs_lit (k := 2) rfl rfl fun z343 hz343 => ?_
  refine bs_add rfl (by omega) (by omega) fun z344 hz344 => ?_
  refine ls_sld rfl (by omega) (by omega) ?_
  refine (show Ev _ 1116 ([some (.retAddr 0), some (.ref 0), some (.ref 69), some (.ref 87), some (.int z), a5, a6], [.int (xs z344.toNatClampNeg), .int (xs z342.toNatClampNeg), .ref 0], (m, k), hp) _ from ?_)
  refine bs_call (K := kq_X10_price_57b5ea) [.ref 0, .int (xs z342.toNatClampNeg), .int (xs z344.toNatClampNeg)] [] rfl ct_X10_price_57b5ea H rfl rfl rfl (bs_rcv (g := 10) H (bs_R.uq H (g := 10) rfl) (by decide) rfl) (ls_room (Nat.le_of_ble_eq_true rfl) (by omega) (by omega)) ?_ (sf_S_nil) fun r346 hp345 thp345 Hhp345 fhp345 ahp345 php345 => ?_
  · intro q k h
    match q, h with
    | 0, h => cases h; exact bs_jR (bs_R.uq H (g := 10) rfl)
    | 1, h => cases h; exact sf_j0
    | 2, h => cases h; exact sf_j0
    | q + 3, h => cases h
  obtain ⟨z347, rfl⟩ := bs_anI ahp345
  refine (show Ev _ 1119 ([some (.retAddr 0), some (.ref 0), some (.ref 69), some (.ref 87), some (.int z), a5, a6], [.int z347], (m + 0, k + 0), hp345) _ from ?_)
  refine Ev.step (j := 1120) (s' := ([some (.retAddr 0), some (.ref 0), some (.ref 69), some (.ref 87), some (.int z), a5, a6], [], (m + 0, k + 0), hp345)) rfl rfl ?_
  refine Ev.step (j := 1121) (s' := ([some (.retAddr 0), some (.ref 0), some (.ref 69), some (.ref 87), some (.int z), a5, a6], [.ref 69], (m + 0, k + 0), hp345)) rfl rfl ?_
  refine Ev.step (j := 1122) (s' := ([some (.retAddr 0), some (.ref 0), some (.ref 69), some (.ref 87), some (.int z), a5, a6], [.retAddr 0, .ref 69], (m + 0, k + 0), hp345)) rfl rfl ?_
  refine Ev.step (j := 1124) (s' := ([some (.retAddr 0), some (.ref 0), some (.ref 69), some (.ref 87), some (.int z), a5, a6], [.int z, .retAddr 0, .ref 69], (m + 0, k + 0), hp345)) rfl rfl ?_
  refine bs_lit (k := 1) rfl rfl fun z348 hz348 => ?_
  refine bs_add rfl (by omega) (by omega) fun z349 hz349 => ?_
  refine ls_sld rfl (by omega) (by omega) ?_
  refine (show Ev _ 1127 ([some (.retAddr 0), some (.ref 0), some (.ref 69), some (.ref 87), some (.int z), a5, a6], [.int (xs z349.toNatClampNeg), .ref 69], (m + 0, k + 0), hp345) _ from ?_)
  refine Ev.step (j := 1128) (s' := ([some (.retAddr 0), some (.ref 0), some (.ref 69), some (.ref 87), some (.int z), a5, a6], [.retAddr 0, .int (xs z349.toNatClampNeg), .ref 69], (m + 0, k + 0), hp345)) rfl rfl ?_
  refine Ev.step (j := 1130) (s' := ([some (.retAddr 0), some (.ref 0), some (.ref 69), some (.ref 87), some (.int z), a5, a6], [.int z, .retAddr 0, .int (xs z349.toNatClampNeg), .ref 69], (m + 0, k + 0), hp345)) rfl rfl ?_
  refine bs_lit (k := 2) rfl rfl fun z350 hz350 => ?_
  refine bs_add rfl (by omega) (by omega) fun z351 hz351 => ?_
  refine ls_sld rfl (by omega) (by omega) ?_
  refine (show Ev _ 1133 ([some (.retAddr 0), some (.ref 0), some (.ref 69), some (.ref 87), some (.int z), a5, a6], [.int (xs z351.toNatClampNeg), .int (xs z349.toNatClampNeg), .ref 69], (m + 0, k + 0), hp345) _ from ?_)
  refine bs_call (K := kq_X11_price_334faa) [.ref 69, .int (xs z349.toNatClampNeg), .int (xs z351.toNatClampNeg)] [] rfl ct_X11_price_334faa Hhp345 rfl rfl rfl (bs_rcv (g := 11) Hhp345 (bs_R.uq Hhp345 (g := 11) rfl) (by decide) rfl) (ls_room (Nat.le_of_ble_eq_true rfl) (by omega) (by omega)) ?_ (sf_S_nil) fun r353 hp352 thp352 Hhp352 fhp352 ahp352 php352 => ?_
  · intro q k h
    match q, h with
    | 0, h => cases h; exact bs_jR (bs_R.uq Hhp345 (g := 11) rfl)
    | 1, h => cases h; exact sf_j0
    | 2, h => cases h; exact sf_j0
    | q + 3, h => cases h
  obtain ⟨z354, rfl⟩ := bs_anI ahp352
  refine (show Ev _ 1136 ([some (.retAddr 0), some (.ref 0), some (.ref 69), some (.ref 87), some (.int z), a5, a6], [.int z354], (m + 0 + 0, k + 0 + 0), hp352) _ from ?_)
  refine Ev.step (j := 1137) (s' := ([some (.retAddr 0), some (.ref 0), some (.ref 69), some (.ref 87), some (.int z), a5, a6], [], (m + 0 + 0, k + 0 + 0), hp352)) rfl rfl ?_
  refine Ev.step (j := 1440) (s' := ([some (.retAddr 0), some (.ref 0), some (.ref 69), some (.ref 87), some (.int z), a5, a6], [], (m + 0 + 0, k + 0 + 0), hp352)) rfl rfl ?_
  exact K _ _ _ _ _ _ Hhp352 True.intro (by omega) (by omega)
set_option maxRecDepth 100000 in
set_option maxHeartbeats 4000000 in
theorem op_dearest {xs : Nat → Int32} {n : Nat} {z : Int32} {a5 a6 : Option Value} {m k : Nat} {hp : ab_H} {t : Nat → Nat} {Q : ab_O → Prop} (H : sf_h t hp) (hs : lw_eq hp) (hz0 : 0 ≤ z.toInt) (hz1 : z.toInt + 6 ≤ n) (hn : n ≤ 3072) (hm : m + 21 ≤ 601024) (hk : k + 410 ≤ 7293034) (K : lw_K xs n z m k Q) : Ev (LT xs n) 1140 ([some (.retAddr 0), some (.ref 0), some (.ref 69), some (.ref 87), some (.int z), a5, a6], [], (m, k), hp) Q := by
  refine Ev.step (j := 1141) (s' := ([some (.retAddr 0), some (.ref 0), some (.ref 69), some (.ref 87), some (.int z), a5, a6], [.ref 0], (m, k), hp)) rfl rfl ?_
  refine bs_call (K := kq_X10_dearest_4c18a7) [.ref 0] [] rfl ct_X10_dearest_4c18a7 H rfl rfl rfl (bs_rcv (g := 10) H (bs_R.uq H (g := 10) rfl) (by decide) rfl) (ls_room (Nat.le_of_ble_eq_true rfl) (by omega) (by omega)) ?_ (sf_S_nil) fun r356 hp355 thp355 Hhp355 fhp355 ahp355 php355 => ?_
  · intro q k h
    match q, h with
    | 0, h => cases h; exact bs_jR (bs_R.uq H (g := 10) rfl)
    | q + 1, h => cases h
  obtain ⟨z357, rfl⟩ := bs_anI ahp355
  refine (show Ev _ 1144 ([some (.retAddr 0), some (.ref 0), some (.ref 69), some (.ref 87), some (.int z), a5, a6], [.int z357], (m + 0, k + 0), hp355) _ from ?_)
  refine Ev.step (j := 1145) (s' := ([some (.retAddr 0), some (.ref 0), some (.ref 69), some (.ref 87), some (.int z), a5, a6], [], (m + 0, k + 0), hp355)) rfl rfl ?_
  refine Ev.step (j := 1146) (s' := ([some (.retAddr 0), some (.ref 0), some (.ref 69), some (.ref 87), some (.int z), a5, a6], [.ref 69], (m + 0, k + 0), hp355)) rfl rfl ?_
  refine bs_call (K := kq_X11_dearest_6afe8b) [.ref 69] [] rfl ct_X11_dearest_6afe8b Hhp355 rfl rfl rfl (bs_rcv (g := 11) Hhp355 (bs_R.uq Hhp355 (g := 11) rfl) (by decide) rfl) (ls_room (Nat.le_of_ble_eq_true rfl) (by omega) (by omega)) ?_ (sf_S_nil) fun r359 hp358 thp358 Hhp358 fhp358 ahp358 php358 => ?_
  · intro q k h
    match q, h with
    | 0, h => cases h; exact bs_jR (bs_R.uq Hhp355 (g := 11) rfl)
    | q + 1, h => cases h
  obtain ⟨z360, rfl⟩ := bs_anI ahp358
  refine (show Ev _ 1149 ([some (.retAddr 0), some (.ref 0), some (.ref 69), some (.ref 87), some (.int z), a5, a6], [.int z360], (m + 0 + 0, k + 0 + 0), hp358) _ from ?_)
  refine Ev.step (j := 1150) (s' := ([some (.retAddr 0), some (.ref 0), some (.ref 69), some (.ref 87), some (.int z), a5, a6], [], (m + 0 + 0, k + 0 + 0), hp358)) rfl rfl ?_
  refine Ev.step (j := 1440) (s' := ([some (.retAddr 0), some (.ref 0), some (.ref 69), some (.ref 87), some (.int z), a5, a6], [], (m + 0 + 0, k + 0 + 0), hp358)) rfl rfl ?_
  exact K _ _ _ _ _ _ Hhp358 True.intro (by omega) (by omega)
set_option maxRecDepth 100000 in
set_option maxHeartbeats 4000000 in
theorem op_rats {xs : Nat → Int32} {n : Nat} {z : Int32} {a5 a6 : Option Value} {m k : Nat} {hp : ab_H} {t : Nat → Nat} {Q : ab_O → Prop} (H : sf_h t hp) (hs : lw_eq hp) (hz0 : 0 ≤ z.toInt) (hz1 : z.toInt + 6 ≤ n) (hn : n ≤ 3072) (hm : m + 21 ≤ 601024) (hk : k + 410 ≤ 7293034) (K : lw_K xs n z m k Q) : Ev (LT xs n) 1153 ([some (.retAddr 0), some (.ref 0), some (.ref 69), some (.ref 87), some (.int z), a5, a6], [], (m, k), hp) Q := by
  refine Ev.step (j := 1154) (s' := ([some (.retAddr 0), some (.ref 0), some (.ref 69), some (.ref 87), some (.int z), a5, a6], [.ref 0], (m, k), hp)) rfl rfl ?_
  refine bs_call (K := kq_X10_rats_4c18a7) [.ref 0] [] rfl ct_X10_rats_4c18a7 H rfl rfl rfl (bs_rcv (g := 10) H (bs_R.uq H (g := 10) rfl) (by decide) rfl) (ls_room (Nat.le_of_ble_eq_true rfl) (by omega) (by omega)) ?_ (sf_S_nil) fun r362 hp361 thp361 Hhp361 fhp361 ahp361 php361 => ?_
  · intro q k h
    match q, h with
    | 0, h => cases h; exact bs_jR (bs_R.uq H (g := 10) rfl)
    | q + 1, h => cases h
  obtain ⟨z363, rfl⟩ := bs_anI ahp361
  refine (show Ev _ 1157 ([some (.retAddr 0), some (.ref 0), some (.ref 69), some (.ref 87), some (.int z), a5, a6], [.int z363], (m + 0, k + 0), hp361) _ from ?_)
  refine Ev.step (j := 1158) (s' := ([some (.retAddr 0), some (.ref 0), some (.ref 69), some (.ref 87), some (.int z), a5, a6], [], (m + 0, k + 0), hp361)) rfl rfl ?_
  refine Ev.step (j := 1159) (s' := ([some (.retAddr 0), some (.ref 0), some (.ref 69), some (.ref 87), some (.int z), a5, a6], [.ref 69], (m + 0, k + 0), hp361)) rfl rfl ?_
  refine bs_call (K := kq_X11_rats_6afe8b) [.ref 69] [] rfl ct_X11_rats_6afe8b Hhp361 rfl rfl rfl (bs_rcv (g := 11) Hhp361 (bs_R.uq Hhp361 (g := 11) rfl) (by decide) rfl) (ls_room (Nat.le_of_ble_eq_true rfl) (by omega) (by omega)) ?_ (sf_S_nil) fun r365 hp364 thp364 Hhp364 fhp364 ahp364 php364 => ?_
  · intro q k h
    match q, h with
    | 0, h => cases h; exact bs_jR (bs_R.uq Hhp361 (g := 11) rfl)
    | q + 1, h => cases h
  obtain ⟨z366, rfl⟩ := bs_anI ahp364
  refine (show Ev _ 1162 ([some (.retAddr 0), some (.ref 0), some (.ref 69), some (.ref 87), some (.int z), a5, a6], [.int z366], (m + 0 + 0, k + 0 + 0), hp364) _ from ?_)
  refine Ev.step (j := 1163) (s' := ([some (.retAddr 0), some (.ref 0), some (.ref 69), some (.ref 87), some (.int z), a5, a6], [], (m + 0 + 0, k + 0 + 0), hp364)) rfl rfl ?_
  refine Ev.step (j := 1440) (s' := ([some (.retAddr 0), some (.ref 0), some (.ref 69), some (.ref 87), some (.int z), a5, a6], [], (m + 0 + 0, k + 0 + 0), hp364)) rfl rfl ?_
  exact K _ _ _ _ _ _ Hhp364 True.intro (by omega) (by omega)
set_option maxRecDepth 100000 in
set_option maxHeartbeats 4000000 in
theorem op_hoarded {xs : Nat → Int32} {n : Nat} {z : Int32} {a5 a6 : Option Value} {m k : Nat} {hp : ab_H} {t : Nat → Nat} {Q : ab_O → Prop} (H : sf_h t hp) (hs : lw_eq hp) (hz0 : 0 ≤ z.toInt) (hz1 : z.toInt + 6 ≤ n) (hn : n ≤ 3072) (hm : m + 21 ≤ 601024) (hk : k + 410 ≤ 7293034) (K : lw_K xs n z m k Q) : Ev (LT xs n) 1166 ([some (.retAddr 0), some (.ref 0), some (.ref 69), some (.ref 87), some (.int z), a5, a6], [], (m, k), hp) Q := by
  refine Ev.step (j := 1167) (s' := ([some (.retAddr 0), some (.ref 0), some (.ref 69), some (.ref 87), some (.int z), a5, a6], [.ref 0], (m, k), hp)) rfl rfl ?_
  refine Ev.step (j := 1168) (s' := ([some (.retAddr 0), some (.ref 0), some (.ref 69), some (.ref 87), some (.int z), a5, a6], [.retAddr 0, .ref 0], (m, k), hp)) rfl rfl ?_
  refine Ev.step (j := 1170) (s' := ([some (.retAddr 0), some (.ref 0), some (.ref 69), some (.ref 87), some (.int z), a5, a6], [.int z, .retAddr 0, .ref 0], (m, k), hp)) rfl rfl ?_
  refine bs_lit (k := 1) rfl rfl fun z367 hz367 => ?_
  refine bs_add rfl (by omega) (by omega) fun z368 hz368 => ?_
  refine ls_sld rfl (by omega) (by omega) ?_
  refine (show Ev _ 1173 ([some (.retAddr 0), some (.ref 0), some (.ref 69), some (.ref 87), some (.int z), a5, a6], [.int (xs z368.toNatClampNeg), .ref 0], (m, k), hp) _ from ?_)
  refine bs_call (K := kq_X10_hoarded_0df2a5) [.ref 0, .int (xs z368.toNatClampNeg)] [] rfl ct_X10_hoarded_0df2a5 H rfl rfl rfl (bs_rcv (g := 10) H (bs_R.uq H (g := 10) rfl) (by decide) rfl) (ls_room (Nat.le_of_ble_eq_true rfl) (by omega) (by omega)) ?_ (sf_S_nil) fun r370 hp369 thp369 Hhp369 fhp369 ahp369 php369 => ?_
  · intro q k h
    match q, h with
    | 0, h => cases h; exact bs_jR (bs_R.uq H (g := 10) rfl)
    | 1, h => cases h; exact sf_j0
    | q + 2, h => cases h
  obtain ⟨z371, rfl⟩ := bs_anI ahp369
  refine (show Ev _ 1176 ([some (.retAddr 0), some (.ref 0), some (.ref 69), some (.ref 87), some (.int z), a5, a6], [.int z371], (m + 0, k + 0), hp369) _ from ?_)
  refine Ev.step (j := 1177) (s' := ([some (.retAddr 0), some (.ref 0), some (.ref 69), some (.ref 87), some (.int z), a5, a6], [], (m + 0, k + 0), hp369)) rfl rfl ?_
  refine Ev.step (j := 1178) (s' := ([some (.retAddr 0), some (.ref 0), some (.ref 69), some (.ref 87), some (.int z), a5, a6], [.ref 69], (m + 0, k + 0), hp369)) rfl rfl ?_
  refine Ev.step (j := 1179) (s' := ([some (.retAddr 0), some (.ref 0), some (.ref 69), some (.ref 87), some (.int z), a5, a6], [.retAddr 0, .ref 69], (m + 0, k + 0), hp369)) rfl rfl ?_
  refine Ev.step (j := 1181) (s' := ([some (.retAddr 0), some (.ref 0), some (.ref 69), some (.ref 87), some (.int z), a5, a6], [.int z, .retAddr 0, .ref 69], (m + 0, k + 0), hp369)) rfl rfl ?_
  refine bs_lit (k := 1) rfl rfl fun z372 hz372 => ?_
  refine bs_add rfl (by omega) (by omega) fun z373 hz373 => ?_
  refine ls_sld rfl (by omega) (by omega) ?_
  refine (show Ev _ 1184 ([some (.retAddr 0), some (.ref 0), some (.ref 69), some (.ref 87), some (.int z), a5, a6], [.int (xs z373.toNatClampNeg), .ref 69], (m + 0, k + 0), hp369) _ from ?_)
  refine bs_call (K := kq_X11_hoarded_3d45d6) [.ref 69, .int (xs z373.toNatClampNeg)] [] rfl ct_X11_hoarded_3d45d6 Hhp369 rfl rfl rfl (bs_rcv (g := 11) Hhp369 (bs_R.uq Hhp369 (g := 11) rfl) (by decide) rfl) (ls_room (Nat.le_of_ble_eq_true rfl) (by omega) (by omega)) ?_ (sf_S_nil) fun r375 hp374 thp374 Hhp374 fhp374 ahp374 php374 => ?_
  · intro q k h
    match q, h with
    | 0, h => cases h; exact bs_jR (bs_R.uq Hhp369 (g := 11) rfl)
    | 1, h => cases h; exact sf_j0
    | q + 2, h => cases h
  obtain ⟨z376, rfl⟩ := bs_anI ahp374
  refine (show Ev _ 1187 ([some (.retAddr 0), some (.ref 0), some (.ref 69), some (.ref 87), some (.int z), a5, a6], [.int z376], (m + 0 + 0, k + 0 + 0), hp374) _ from ?_)
  refine Ev.step (j := 1188) (s' := ([some (.retAddr 0), some (.ref 0), some (.ref 69), some (.ref 87), some (.int z), a5, a6], [], (m + 0 + 0, k + 0 + 0), hp374)) rfl rfl ?_
  refine Ev.step (j := 1440) (s' := ([some (.retAddr 0), some (.ref 0), some (.ref 69), some (.ref 87), some (.int z), a5, a6], [], (m + 0 + 0, k + 0 + 0), hp374)) rfl rfl ?_
  exact K _ _ _ _ _ _ Hhp374 True.intro (by omega) (by omega)
set_option maxRecDepth 100000 in
set_option maxHeartbeats 4000000 in
theorem op_drawn {xs : Nat → Int32} {n : Nat} {z : Int32} {a5 a6 : Option Value} {m k : Nat} {hp : ab_H} {t : Nat → Nat} {Q : ab_O → Prop} (H : sf_h t hp) (hs : lw_eq hp) (hz0 : 0 ≤ z.toInt) (hz1 : z.toInt + 6 ≤ n) (hn : n ≤ 3072) (hm : m + 21 ≤ 601024) (hk : k + 410 ≤ 7293034) (K : lw_K xs n z m k Q) : Ev (LT xs n) 1191 ([some (.retAddr 0), some (.ref 0), some (.ref 69), some (.ref 87), some (.int z), a5, a6], [], (m, k), hp) Q := by
  refine Ev.step (j := 1192) (s' := ([some (.retAddr 0), some (.ref 0), some (.ref 69), some (.ref 87), some (.int z), a5, a6], [.ref 0], (m, k), hp)) rfl rfl ?_
  refine Ev.step (j := 1193) (s' := ([some (.retAddr 0), some (.ref 0), some (.ref 69), some (.ref 87), some (.int z), a5, a6], [.retAddr 0, .ref 0], (m, k), hp)) rfl rfl ?_
  refine Ev.step (j := 1195) (s' := ([some (.retAddr 0), some (.ref 0), some (.ref 69), some (.ref 87), some (.int z), a5, a6], [.int z, .retAddr 0, .ref 0], (m, k), hp)) rfl rfl ?_
  refine bs_lit (k := 1) rfl rfl fun z377 hz377 => ?_
  refine bs_add rfl (by omega) (by omega) fun z378 hz378 => ?_
  refine ls_sld rfl (by omega) (by omega) ?_
  refine (show Ev _ 1198 ([some (.retAddr 0), some (.ref 0), some (.ref 69), some (.ref 87), some (.int z), a5, a6], [.int (xs z378.toNatClampNeg), .ref 0], (m, k), hp) _ from ?_)
  refine Ev.step (j := 1199) (s' := ([some (.retAddr 0), some (.ref 0), some (.ref 69), some (.ref 87), some (.int z), a5, a6], [.retAddr 0, .int (xs z378.toNatClampNeg), .ref 0], (m, k), hp)) rfl rfl ?_
  refine Ev.step (j := 1201) (s' := ([some (.retAddr 0), some (.ref 0), some (.ref 69), some (.ref 87), some (.int z), a5, a6], [.int z, .retAddr 0, .int (xs z378.toNatClampNeg), .ref 0], (m, k), hp)) rfl rfl ?_
  refine bs_lit (k := 2) rfl rfl fun z379 hz379 => ?_
  refine bs_add rfl (by omega) (by omega) fun z380 hz380 => ?_
  refine ls_sld rfl (by omega) (by omega) ?_
  refine (show Ev _ 1204 ([some (.retAddr 0), some (.ref 0), some (.ref 69), some (.ref 87), some (.int z), a5, a6], [.int (xs z380.toNatClampNeg), .int (xs z378.toNatClampNeg), .ref 0], (m, k), hp) _ from ?_)
  refine bs_call (K := kq_X10_drawn_57b5ea) [.ref 0, .int (xs z378.toNatClampNeg), .int (xs z380.toNatClampNeg)] [] rfl ct_X10_drawn_57b5ea H rfl rfl rfl (bs_rcv (g := 10) H (bs_R.uq H (g := 10) rfl) (by decide) rfl) (ls_room (Nat.le_of_ble_eq_true rfl) (by omega) (by omega)) ?_ (sf_S_nil) fun r382 hp381 thp381 Hhp381 fhp381 ahp381 php381 => ?_
  · intro q k h
    match q, h with
    | 0, h => cases h; exact bs_jR (bs_R.uq H (g := 10) rfl)
    | 1, h => cases h; exact sf_j0
    | 2, h => cases h; exact sf_j0
    | q + 3, h => cases h
  obtain ⟨z383, rfl⟩ := bs_anI ahp381
  refine (show Ev _ 1207 ([some (.retAddr 0), some (.ref 0), some (.ref 69), some (.ref 87), some (.int z), a5, a6], [.int z383], (m + 8, k + 138), hp381) _ from ?_)
  refine Ev.step (j := 1208) (s' := ([some (.retAddr 0), some (.ref 0), some (.ref 69), some (.ref 87), some (.int z), a5, a6], [], (m + 8, k + 138), hp381)) rfl rfl ?_
  refine Ev.step (j := 1209) (s' := ([some (.retAddr 0), some (.ref 0), some (.ref 69), some (.ref 87), some (.int z), a5, a6], [.ref 69], (m + 8, k + 138), hp381)) rfl rfl ?_
  refine Ev.step (j := 1210) (s' := ([some (.retAddr 0), some (.ref 0), some (.ref 69), some (.ref 87), some (.int z), a5, a6], [.retAddr 0, .ref 69], (m + 8, k + 138), hp381)) rfl rfl ?_
  refine Ev.step (j := 1212) (s' := ([some (.retAddr 0), some (.ref 0), some (.ref 69), some (.ref 87), some (.int z), a5, a6], [.int z, .retAddr 0, .ref 69], (m + 8, k + 138), hp381)) rfl rfl ?_
  refine bs_lit (k := 1) rfl rfl fun z384 hz384 => ?_
  refine bs_add rfl (by omega) (by omega) fun z385 hz385 => ?_
  refine ls_sld rfl (by omega) (by omega) ?_
  refine (show Ev _ 1215 ([some (.retAddr 0), some (.ref 0), some (.ref 69), some (.ref 87), some (.int z), a5, a6], [.int (xs z385.toNatClampNeg), .ref 69], (m + 8, k + 138), hp381) _ from ?_)
  refine Ev.step (j := 1216) (s' := ([some (.retAddr 0), some (.ref 0), some (.ref 69), some (.ref 87), some (.int z), a5, a6], [.retAddr 0, .int (xs z385.toNatClampNeg), .ref 69], (m + 8, k + 138), hp381)) rfl rfl ?_
  refine Ev.step (j := 1218) (s' := ([some (.retAddr 0), some (.ref 0), some (.ref 69), some (.ref 87), some (.int z), a5, a6], [.int z, .retAddr 0, .int (xs z385.toNatClampNeg), .ref 69], (m + 8, k + 138), hp381)) rfl rfl ?_
  refine bs_lit (k := 2) rfl rfl fun z386 hz386 => ?_
  refine bs_add rfl (by omega) (by omega) fun z387 hz387 => ?_
  refine ls_sld rfl (by omega) (by omega) ?_
  refine (show Ev _ 1221 ([some (.retAddr 0), some (.ref 0), some (.ref 69), some (.ref 87), some (.int z), a5, a6], [.int (xs z387.toNatClampNeg), .int (xs z385.toNatClampNeg), .ref 69], (m + 8, k + 138), hp381) _ from ?_)
  refine bs_call (K := kq_X11_drawn_334faa) [.ref 69, .int (xs z385.toNatClampNeg), .int (xs z387.toNatClampNeg)] [] rfl ct_X11_drawn_334faa Hhp381 rfl rfl rfl (bs_rcv (g := 11) Hhp381 (bs_R.uq Hhp381 (g := 11) rfl) (by decide) rfl) (ls_room (Nat.le_of_ble_eq_true rfl) (by omega) (by omega)) ?_ (sf_S_nil) fun r389 hp388 thp388 Hhp388 fhp388 ahp388 php388 => ?_
  · intro q k h
    match q, h with
    | 0, h => cases h; exact bs_jR (bs_R.uq Hhp381 (g := 11) rfl)
    | 1, h => cases h; exact sf_j0
    | 2, h => cases h; exact sf_j0
    | q + 3, h => cases h
  obtain ⟨z390, rfl⟩ := bs_anI ahp388
  refine (show Ev _ 1224 ([some (.retAddr 0), some (.ref 0), some (.ref 69), some (.ref 87), some (.int z), a5, a6], [.int z390], (m + 8 + 0, k + 138 + 0), hp388) _ from ?_)
  refine Ev.step (j := 1225) (s' := ([some (.retAddr 0), some (.ref 0), some (.ref 69), some (.ref 87), some (.int z), a5, a6], [], (m + 8 + 0, k + 138 + 0), hp388)) rfl rfl ?_
  refine Ev.step (j := 1440) (s' := ([some (.retAddr 0), some (.ref 0), some (.ref 69), some (.ref 87), some (.int z), a5, a6], [], (m + 8 + 0, k + 138 + 0), hp388)) rfl rfl ?_
  exact K _ _ _ _ _ _ Hhp388 True.intro (by omega) (by omega)
set_option maxRecDepth 100000 in
set_option maxHeartbeats 4000000 in
theorem op_odds {xs : Nat → Int32} {n : Nat} {z : Int32} {a5 a6 : Option Value} {m k : Nat} {hp : ab_H} {t : Nat → Nat} {Q : ab_O → Prop} (H : sf_h t hp) (hs : lw_eq hp) (hz0 : 0 ≤ z.toInt) (hz1 : z.toInt + 6 ≤ n) (hn : n ≤ 3072) (hm : m + 21 ≤ 601024) (hk : k + 410 ≤ 7293034) (K : lw_K xs n z m k Q) : Ev (LT xs n) 1228 ([some (.retAddr 0), some (.ref 0), some (.ref 69), some (.ref 87), some (.int z), a5, a6], [], (m, k), hp) Q := by
  refine Ev.step (j := 1229) (s' := ([some (.retAddr 0), some (.ref 0), some (.ref 69), some (.ref 87), some (.int z), a5, a6], [.ref 0], (m, k), hp)) rfl rfl ?_
  refine Ev.step (j := 1230) (s' := ([some (.retAddr 0), some (.ref 0), some (.ref 69), some (.ref 87), some (.int z), a5, a6], [.retAddr 0, .ref 0], (m, k), hp)) rfl rfl ?_
  refine Ev.step (j := 1232) (s' := ([some (.retAddr 0), some (.ref 0), some (.ref 69), some (.ref 87), some (.int z), a5, a6], [.int z, .retAddr 0, .ref 0], (m, k), hp)) rfl rfl ?_
  refine bs_lit (k := 1) rfl rfl fun z391 hz391 => ?_
  refine bs_add rfl (by omega) (by omega) fun z392 hz392 => ?_
  refine ls_sld rfl (by omega) (by omega) ?_
  refine (show Ev _ 1235 ([some (.retAddr 0), some (.ref 0), some (.ref 69), some (.ref 87), some (.int z), a5, a6], [.int (xs z392.toNatClampNeg), .ref 0], (m, k), hp) _ from ?_)
  refine Ev.step (j := 1236) (s' := ([some (.retAddr 0), some (.ref 0), some (.ref 69), some (.ref 87), some (.int z), a5, a6], [.retAddr 0, .int (xs z392.toNatClampNeg), .ref 0], (m, k), hp)) rfl rfl ?_
  refine Ev.step (j := 1238) (s' := ([some (.retAddr 0), some (.ref 0), some (.ref 69), some (.ref 87), some (.int z), a5, a6], [.int z, .retAddr 0, .int (xs z392.toNatClampNeg), .ref 0], (m, k), hp)) rfl rfl ?_
  refine bs_lit (k := 2) rfl rfl fun z393 hz393 => ?_
  refine bs_add rfl (by omega) (by omega) fun z394 hz394 => ?_
  refine ls_sld rfl (by omega) (by omega) ?_
  refine (show Ev _ 1241 ([some (.retAddr 0), some (.ref 0), some (.ref 69), some (.ref 87), some (.int z), a5, a6], [.int (xs z394.toNatClampNeg), .int (xs z392.toNatClampNeg), .ref 0], (m, k), hp) _ from ?_)
  refine Ev.step (j := 1242) (s' := ([some (.retAddr 0), some (.ref 0), some (.ref 69), some (.ref 87), some (.int z), a5, a6], [.retAddr 0, .int (xs z394.toNatClampNeg), .int (xs z392.toNatClampNeg), .ref 0], (m, k), hp)) rfl rfl ?_
  refine Ev.step (j := 1244) (s' := ([some (.retAddr 0), some (.ref 0), some (.ref 69), some (.ref 87), some (.int z), a5, a6], [.int z, .retAddr 0, .int (xs z394.toNatClampNeg), .int (xs z392.toNatClampNeg), .ref 0], (m, k), hp)) rfl rfl ?_
  refine bs_lit (k := 3) rfl rfl fun z395 hz395 => ?_
  refine bs_add rfl (by omega) (by omega) fun z396 hz396 => ?_
  refine ls_sld rfl (by omega) (by omega) ?_
  refine (show Ev _ 1247 ([some (.retAddr 0), some (.ref 0), some (.ref 69), some (.ref 87), some (.int z), a5, a6], [.int (xs z396.toNatClampNeg), .int (xs z394.toNatClampNeg), .int (xs z392.toNatClampNeg), .ref 0], (m, k), hp) _ from ?_)
  refine bs_call (K := kq_X10_odds_7e6f69) [.ref 0, .int (xs z392.toNatClampNeg), .int (xs z394.toNatClampNeg), .int (xs z396.toNatClampNeg)] [] rfl ct_X10_odds_7e6f69 H rfl rfl rfl (bs_rcv (g := 10) H (bs_R.uq H (g := 10) rfl) (by decide) rfl) (ls_room (Nat.le_of_ble_eq_true rfl) (by omega) (by omega)) ?_ (sf_S_nil) fun r398 hp397 thp397 Hhp397 fhp397 ahp397 php397 => ?_
  · intro q k h
    match q, h with
    | 0, h => cases h; exact bs_jR (bs_R.uq H (g := 10) rfl)
    | 1, h => cases h; exact sf_j0
    | 2, h => cases h; exact sf_j0
    | 3, h => cases h; exact sf_j0
    | q + 4, h => cases h
  obtain ⟨z399, rfl⟩ := bs_anI ahp397
  refine (show Ev _ 1250 ([some (.retAddr 0), some (.ref 0), some (.ref 69), some (.ref 87), some (.int z), a5, a6], [.int z399], (m + 0, k + 0), hp397) _ from ?_)
  refine Ev.step (j := 1251) (s' := ([some (.retAddr 0), some (.ref 0), some (.ref 69), some (.ref 87), some (.int z), a5, a6], [], (m + 0, k + 0), hp397)) rfl rfl ?_
  refine Ev.step (j := 1252) (s' := ([some (.retAddr 0), some (.ref 0), some (.ref 69), some (.ref 87), some (.int z), a5, a6], [.ref 69], (m + 0, k + 0), hp397)) rfl rfl ?_
  refine Ev.step (j := 1253) (s' := ([some (.retAddr 0), some (.ref 0), some (.ref 69), some (.ref 87), some (.int z), a5, a6], [.retAddr 0, .ref 69], (m + 0, k + 0), hp397)) rfl rfl ?_
  refine Ev.step (j := 1255) (s' := ([some (.retAddr 0), some (.ref 0), some (.ref 69), some (.ref 87), some (.int z), a5, a6], [.int z, .retAddr 0, .ref 69], (m + 0, k + 0), hp397)) rfl rfl ?_
  refine bs_lit (k := 1) rfl rfl fun z400 hz400 => ?_
  refine bs_add rfl (by omega) (by omega) fun z401 hz401 => ?_
  refine ls_sld rfl (by omega) (by omega) ?_
  refine (show Ev _ 1258 ([some (.retAddr 0), some (.ref 0), some (.ref 69), some (.ref 87), some (.int z), a5, a6], [.int (xs z401.toNatClampNeg), .ref 69], (m + 0, k + 0), hp397) _ from ?_)
  refine Ev.step (j := 1259) (s' := ([some (.retAddr 0), some (.ref 0), some (.ref 69), some (.ref 87), some (.int z), a5, a6], [.retAddr 0, .int (xs z401.toNatClampNeg), .ref 69], (m + 0, k + 0), hp397)) rfl rfl ?_
  refine Ev.step (j := 1261) (s' := ([some (.retAddr 0), some (.ref 0), some (.ref 69), some (.ref 87), some (.int z), a5, a6], [.int z, .retAddr 0, .int (xs z401.toNatClampNeg), .ref 69], (m + 0, k + 0), hp397)) rfl rfl ?_
  refine bs_lit (k := 2) rfl rfl fun z402 hz402 => ?_
  refine bs_add rfl (by omega) (by omega) fun z403 hz403 => ?_
  refine ls_sld rfl (by omega) (by omega) ?_
  refine (show Ev _ 1264 ([some (.retAddr 0), some (.ref 0), some (.ref 69), some (.ref 87), some (.int z), a5, a6], [.int (xs z403.toNatClampNeg), .int (xs z401.toNatClampNeg), .ref 69], (m + 0, k + 0), hp397) _ from ?_)
  refine Ev.step (j := 1265) (s' := ([some (.retAddr 0), some (.ref 0), some (.ref 69), some (.ref 87), some (.int z), a5, a6], [.retAddr 0, .int (xs z403.toNatClampNeg), .int (xs z401.toNatClampNeg), .ref 69], (m + 0, k + 0), hp397)) rfl rfl ?_
  refine Ev.step (j := 1267) (s' := ([some (.retAddr 0), some (.ref 0), some (.ref 69), some (.ref 87), some (.int z), a5, a6], [.int z, .retAddr 0, .int (xs z403.toNatClampNeg), .int (xs z401.toNatClampNeg), .ref 69], (m + 0, k + 0), hp397)) rfl rfl ?_
  refine bs_lit (k := 3) rfl rfl fun z404 hz404 => ?_
  refine bs_add rfl (by omega) (by omega) fun z405 hz405 => ?_
  refine ls_sld rfl (by omega) (by omega) ?_
  refine (show Ev _ 1270 ([some (.retAddr 0), some (.ref 0), some (.ref 69), some (.ref 87), some (.int z), a5, a6], [.int (xs z405.toNatClampNeg), .int (xs z403.toNatClampNeg), .int (xs z401.toNatClampNeg), .ref 69], (m + 0, k + 0), hp397) _ from ?_)
  refine bs_call (K := kq_X11_odds_3518ea) [.ref 69, .int (xs z401.toNatClampNeg), .int (xs z403.toNatClampNeg), .int (xs z405.toNatClampNeg)] [] rfl ct_X11_odds_3518ea Hhp397 rfl rfl rfl (bs_rcv (g := 11) Hhp397 (bs_R.uq Hhp397 (g := 11) rfl) (by decide) rfl) (ls_room (Nat.le_of_ble_eq_true rfl) (by omega) (by omega)) ?_ (sf_S_nil) fun r407 hp406 thp406 Hhp406 fhp406 ahp406 php406 => ?_
  · intro q k h
    match q, h with
    | 0, h => cases h; exact bs_jR (bs_R.uq Hhp397 (g := 11) rfl)
    | 1, h => cases h; exact sf_j0
    | 2, h => cases h; exact sf_j0
    | 3, h => cases h; exact sf_j0
    | q + 4, h => cases h
  obtain ⟨z408, rfl⟩ := bs_anI ahp406
  refine (show Ev _ 1273 ([some (.retAddr 0), some (.ref 0), some (.ref 69), some (.ref 87), some (.int z), a5, a6], [.int z408], (m + 0 + 0, k + 0 + 0), hp406) _ from ?_)
  refine Ev.step (j := 1274) (s' := ([some (.retAddr 0), some (.ref 0), some (.ref 69), some (.ref 87), some (.int z), a5, a6], [], (m + 0 + 0, k + 0 + 0), hp406)) rfl rfl ?_
  refine Ev.step (j := 1440) (s' := ([some (.retAddr 0), some (.ref 0), some (.ref 69), some (.ref 87), some (.int z), a5, a6], [], (m + 0 + 0, k + 0 + 0), hp406)) rfl rfl ?_
  exact K _ _ _ _ _ _ Hhp406 True.intro (by omega) (by omega)
set_option maxRecDepth 100000 in
set_option maxHeartbeats 4000000 in
theorem op_log_a {xs : Nat → Int32} {n : Nat} {z : Int32} {a5 a6 : Option Value} {m k : Nat} {hp : ab_H} {t : Nat → Nat} {Q : ab_O → Prop} (H : sf_h t hp) (hs : lw_eq hp) (hz0 : 0 ≤ z.toInt) (hz1 : z.toInt + 6 ≤ n) (hn : n ≤ 3072) (hm : m + 21 ≤ 601024) (hk : k + 410 ≤ 7293034) (h1 : ∀ y : Int32, y.toInt = z.toInt + 1 → 0 ≤ (xs y.toNatClampNeg).toInt ∧ (xs y.toNatClampNeg).toInt ≤ 1) (K : lw_K xs n z m k Q) : Ev (LT xs n) 1277 ([some (.retAddr 0), some (.ref 0), some (.ref 69), some (.ref 87), some (.int z), a5, a6], [], (m, k), hp) Q := by
  refine Ev.step (j := 1278) (s' := ([some (.retAddr 0), some (.ref 0), some (.ref 69), some (.ref 87), some (.int z), a5, a6], [.ref 0], (m, k), hp)) rfl rfl ?_
  refine Ev.step (j := 1279) (s' := ([some (.retAddr 0), some (.ref 0), some (.ref 69), some (.ref 87), some (.int z), a5, a6], [.retAddr 0, .ref 0], (m, k), hp)) rfl rfl ?_
  refine Ev.step (j := 1281) (s' := ([some (.retAddr 0), some (.ref 0), some (.ref 69), some (.ref 87), some (.int z), a5, a6], [.int z, .retAddr 0, .ref 0], (m, k), hp)) rfl rfl ?_
  refine bs_lit (k := 1) rfl rfl fun z409 hz409 => ?_
  refine bs_add rfl (by omega) (by omega) fun z410 hz410 => ?_
  refine ls_sld rfl (by omega) (by omega) ?_
  have gz410 := h1 z410 (by omega)
  have ggz410 := n_range (xs z410.toNatClampNeg)
  refine (show Ev _ 1284 ([some (.retAddr 0), some (.ref 0), some (.ref 69), some (.ref 87), some (.int z), a5, a6], [.int (xs z410.toNatClampNeg), .ref 0], (m, k), hp) _ from ?_)
  refine bs_call (K := kq_X10_log_6a20bc) [.ref 0, .int (xs z410.toNatClampNeg)] [] rfl ct_X10_log_6a20bc H rfl rfl rfl (bs_rcv (g := 10) H (bs_R.uq H (g := 10) rfl) (by decide) rfl) (ls_room (Nat.le_of_ble_eq_true rfl) (by omega) (by omega)) ?_ (sf_S_cons (sf_s1 (x := ((xs z410.toNatClampNeg)).toInt) rfl (by omega) (by omega)) (sf_S_nil)) fun r412 hp411 thp411 Hhp411 fhp411 ahp411 php411 => ?_
  · intro q k h
    match q, h with
    | 0, h => cases h; exact bs_jR (bs_R.uq H (g := 10) rfl)
    | 1, h => cases h; exact sf_j0
    | q + 2, h => cases h
  obtain ⟨z413, rfl⟩ := bs_anI ahp411
  refine (show Ev _ 1287 ([some (.retAddr 0), some (.ref 0), some (.ref 69), some (.ref 87), some (.int z), a5, a6], [.int z413], (m + 8, k + 138), hp411) _ from ?_)
  refine Ev.step (j := 1288) (s' := ([some (.retAddr 0), some (.ref 0), some (.ref 69), some (.ref 87), some (.int z), a5, a6], [], (m + 8, k + 138), hp411)) rfl rfl ?_
  refine Ev.step (j := 1289) (s' := ([some (.retAddr 0), some (.ref 0), some (.ref 69), some (.ref 87), some (.int z), a5, a6], [.ref 69], (m + 8, k + 138), hp411)) rfl rfl ?_
  refine Ev.step (j := 1290) (s' := ([some (.retAddr 0), some (.ref 0), some (.ref 69), some (.ref 87), some (.int z), a5, a6], [.retAddr 0, .ref 69], (m + 8, k + 138), hp411)) rfl rfl ?_
  refine Ev.step (j := 1292) (s' := ([some (.retAddr 0), some (.ref 0), some (.ref 69), some (.ref 87), some (.int z), a5, a6], [.int z, .retAddr 0, .ref 69], (m + 8, k + 138), hp411)) rfl rfl ?_
  refine bs_lit (k := 1) rfl rfl fun z414 hz414 => ?_
  refine bs_add rfl (by omega) (by omega) fun z415 hz415 => ?_
  refine ls_sld rfl (by omega) (by omega) ?_
  have gz415 := h1 z415 (by omega)
  have ggz415 := n_range (xs z415.toNatClampNeg)
  refine (show Ev _ 1295 ([some (.retAddr 0), some (.ref 0), some (.ref 69), some (.ref 87), some (.int z), a5, a6], [.int (xs z415.toNatClampNeg), .ref 69], (m + 8, k + 138), hp411) _ from ?_)
  refine bs_call (K := kq_X11_log_h) [.ref 69, .int (xs z415.toNatClampNeg)] [] rfl ct_X11_log_h Hhp411 rfl rfl rfl (bs_rcv (g := 11) Hhp411 (bs_R.uq Hhp411 (g := 11) rfl) (by decide) rfl) (ls_room (Nat.le_of_ble_eq_true rfl) (by omega) (by omega)) ?_ (sf_S_cons (sf_s1 (x := ((xs z415.toNatClampNeg)).toInt) rfl (by omega) (by omega)) (sf_S_nil)) fun r417 hp416 thp416 Hhp416 fhp416 ahp416 php416 => ?_
  · intro q k h
    match q, h with
    | 0, h => cases h; exact bs_jR (bs_R.uq Hhp411 (g := 11) rfl)
    | 1, h => cases h; exact sf_j0
    | q + 2, h => cases h
  obtain ⟨z418, rfl⟩ := bs_anI ahp416
  refine (show Ev _ 1298 ([some (.retAddr 0), some (.ref 0), some (.ref 69), some (.ref 87), some (.int z), a5, a6], [.int z418], (m + 8 + 0, k + 138 + 0), hp416) _ from ?_)
  refine Ev.step (j := 1299) (s' := ([some (.retAddr 0), some (.ref 0), some (.ref 69), some (.ref 87), some (.int z), a5, a6], [], (m + 8 + 0, k + 138 + 0), hp416)) rfl rfl ?_
  refine Ev.step (j := 1440) (s' := ([some (.retAddr 0), some (.ref 0), some (.ref 69), some (.ref 87), some (.int z), a5, a6], [], (m + 8 + 0, k + 138 + 0), hp416)) rfl rfl ?_
  exact K _ _ _ _ _ _ Hhp416 True.intro (by omega) (by omega)
set_option maxRecDepth 100000 in
set_option maxHeartbeats 4000000 in
theorem op_log_b {xs : Nat → Int32} {n : Nat} {z : Int32} {a5 a6 : Option Value} {m k : Nat} {hp : ab_H} {t : Nat → Nat} {Q : ab_O → Prop} (H : sf_h t hp) (hs : lw_eq hp) (hz0 : 0 ≤ z.toInt) (hz1 : z.toInt + 6 ≤ n) (hn : n ≤ 3072) (hm : m + 21 ≤ 601024) (hk : k + 410 ≤ 7293034) (h1 : ∀ y : Int32, y.toInt = z.toInt + 1 → (xs y.toNatClampNeg).toInt ≤ -1) (K : lw_K xs n z m k Q) : Ev (LT xs n) 1277 ([some (.retAddr 0), some (.ref 0), some (.ref 69), some (.ref 87), some (.int z), a5, a6], [], (m, k), hp) Q := by
  refine Ev.step (j := 1278) (s' := ([some (.retAddr 0), some (.ref 0), some (.ref 69), some (.ref 87), some (.int z), a5, a6], [.ref 0], (m, k), hp)) rfl rfl ?_
  refine Ev.step (j := 1279) (s' := ([some (.retAddr 0), some (.ref 0), some (.ref 69), some (.ref 87), some (.int z), a5, a6], [.retAddr 0, .ref 0], (m, k), hp)) rfl rfl ?_
  refine Ev.step (j := 1281) (s' := ([some (.retAddr 0), some (.ref 0), some (.ref 69), some (.ref 87), some (.int z), a5, a6], [.int z, .retAddr 0, .ref 0], (m, k), hp)) rfl rfl ?_
  refine bs_lit (k := 1) rfl rfl fun z419 hz419 => ?_
  refine bs_add rfl (by omega) (by omega) fun z420 hz420 => ?_
  refine ls_sld rfl (by omega) (by omega) ?_
  have gz420 := h1 z420 (by omega)
  have ggz420 := n_range (xs z420.toNatClampNeg)
  refine (show Ev _ 1284 ([some (.retAddr 0), some (.ref 0), some (.ref 69), some (.ref 87), some (.int z), a5, a6], [.int (xs z420.toNatClampNeg), .ref 0], (m, k), hp) _ from ?_)
  refine bs_call (K := kq_X10_log_77e69b) [.ref 0, .int (xs z420.toNatClampNeg)] [] rfl ct_X10_log_77e69b H rfl rfl rfl (bs_rcv (g := 10) H (bs_R.uq H (g := 10) rfl) (by decide) rfl) (ls_room (Nat.le_of_ble_eq_true rfl) (by omega) (by omega)) ?_ (sf_S_cons (sf_s1 (x := ((xs z420.toNatClampNeg)).toInt) rfl (by omega) (by omega)) (sf_S_nil)) fun r422 hp421 thp421 Hhp421 fhp421 ahp421 php421 => ?_
  · intro q k h
    match q, h with
    | 0, h => cases h; exact bs_jR (bs_R.uq H (g := 10) rfl)
    | 1, h => cases h; exact sf_j0
    | q + 2, h => cases h
  obtain ⟨z423, rfl⟩ := bs_anI ahp421
  refine (show Ev _ 1287 ([some (.retAddr 0), some (.ref 0), some (.ref 69), some (.ref 87), some (.int z), a5, a6], [.int z423], (m + 8, k + 138), hp421) _ from ?_)
  refine Ev.step (j := 1288) (s' := ([some (.retAddr 0), some (.ref 0), some (.ref 69), some (.ref 87), some (.int z), a5, a6], [], (m + 8, k + 138), hp421)) rfl rfl ?_
  refine Ev.step (j := 1289) (s' := ([some (.retAddr 0), some (.ref 0), some (.ref 69), some (.ref 87), some (.int z), a5, a6], [.ref 69], (m + 8, k + 138), hp421)) rfl rfl ?_
  refine Ev.step (j := 1290) (s' := ([some (.retAddr 0), some (.ref 0), some (.ref 69), some (.ref 87), some (.int z), a5, a6], [.retAddr 0, .ref 69], (m + 8, k + 138), hp421)) rfl rfl ?_
  refine Ev.step (j := 1292) (s' := ([some (.retAddr 0), some (.ref 0), some (.ref 69), some (.ref 87), some (.int z), a5, a6], [.int z, .retAddr 0, .ref 69], (m + 8, k + 138), hp421)) rfl rfl ?_
  refine bs_lit (k := 1) rfl rfl fun z424 hz424 => ?_
  refine bs_add rfl (by omega) (by omega) fun z425 hz425 => ?_
  refine ls_sld rfl (by omega) (by omega) ?_
  have gz425 := h1 z425 (by omega)
  have ggz425 := n_range (xs z425.toNatClampNeg)
  refine (show Ev _ 1295 ([some (.retAddr 0), some (.ref 0), some (.ref 69), some (.ref 87), some (.int z), a5, a6], [.int (xs z425.toNatClampNeg), .ref 69], (m + 8, k + 138), hp421) _ from ?_)
  refine bs_call (K := kq_X11_log_lo) [.ref 69, .int (xs z425.toNatClampNeg)] [] rfl ct_X11_log_lo Hhp421 rfl rfl rfl (bs_rcv (g := 11) Hhp421 (bs_R.uq Hhp421 (g := 11) rfl) (by decide) rfl) (ls_room (Nat.le_of_ble_eq_true rfl) (by omega) (by omega)) ?_ (sf_S_cons (sf_s1 (x := ((xs z425.toNatClampNeg)).toInt) rfl (by omega) (by omega)) (sf_S_nil)) fun r427 hp426 thp426 Hhp426 fhp426 ahp426 php426 => ?_
  · intro q k h
    match q, h with
    | 0, h => cases h; exact bs_jR (bs_R.uq Hhp421 (g := 11) rfl)
    | 1, h => cases h; exact sf_j0
    | q + 2, h => cases h
  obtain ⟨z428, rfl⟩ := bs_anI ahp426
  refine (show Ev _ 1298 ([some (.retAddr 0), some (.ref 0), some (.ref 69), some (.ref 87), some (.int z), a5, a6], [.int z428], (m + 8 + 0, k + 138 + 0), hp426) _ from ?_)
  refine Ev.step (j := 1299) (s' := ([some (.retAddr 0), some (.ref 0), some (.ref 69), some (.ref 87), some (.int z), a5, a6], [], (m + 8 + 0, k + 138 + 0), hp426)) rfl rfl ?_
  refine Ev.step (j := 1440) (s' := ([some (.retAddr 0), some (.ref 0), some (.ref 69), some (.ref 87), some (.int z), a5, a6], [], (m + 8 + 0, k + 138 + 0), hp426)) rfl rfl ?_
  exact K _ _ _ _ _ _ Hhp426 True.intro (by omega) (by omega)
set_option maxRecDepth 100000 in
set_option maxHeartbeats 4000000 in
theorem op_log_c {xs : Nat → Int32} {n : Nat} {z : Int32} {a5 a6 : Option Value} {m k : Nat} {hp : ab_H} {t : Nat → Nat} {Q : ab_O → Prop} (H : sf_h t hp) (hs : lw_eq hp) (hz0 : 0 ≤ z.toInt) (hz1 : z.toInt + 6 ≤ n) (hn : n ≤ 3072) (hm : m + 21 ≤ 601024) (hk : k + 410 ≤ 7293034) (h1 : ∀ y : Int32, y.toInt = z.toInt + 1 → 2 ≤ (xs y.toNatClampNeg).toInt) (K : lw_K xs n z m k Q) : Ev (LT xs n) 1277 ([some (.retAddr 0), some (.ref 0), some (.ref 69), some (.ref 87), some (.int z), a5, a6], [], (m, k), hp) Q := by
  refine Ev.step (j := 1278) (s' := ([some (.retAddr 0), some (.ref 0), some (.ref 69), some (.ref 87), some (.int z), a5, a6], [.ref 0], (m, k), hp)) rfl rfl ?_
  refine Ev.step (j := 1279) (s' := ([some (.retAddr 0), some (.ref 0), some (.ref 69), some (.ref 87), some (.int z), a5, a6], [.retAddr 0, .ref 0], (m, k), hp)) rfl rfl ?_
  refine Ev.step (j := 1281) (s' := ([some (.retAddr 0), some (.ref 0), some (.ref 69), some (.ref 87), some (.int z), a5, a6], [.int z, .retAddr 0, .ref 0], (m, k), hp)) rfl rfl ?_
  refine bs_lit (k := 1) rfl rfl fun z429 hz429 => ?_
  refine bs_add rfl (by omega) (by omega) fun z430 hz430 => ?_
  refine ls_sld rfl (by omega) (by omega) ?_
  have gz430 := h1 z430 (by omega)
  have ggz430 := n_range (xs z430.toNatClampNeg)
  refine (show Ev _ 1284 ([some (.retAddr 0), some (.ref 0), some (.ref 69), some (.ref 87), some (.int z), a5, a6], [.int (xs z430.toNatClampNeg), .ref 0], (m, k), hp) _ from ?_)
  refine bs_call (K := kq_X10_log_75923d) [.ref 0, .int (xs z430.toNatClampNeg)] [] rfl ct_X10_log_75923d H rfl rfl rfl (bs_rcv (g := 10) H (bs_R.uq H (g := 10) rfl) (by decide) rfl) (ls_room (Nat.le_of_ble_eq_true rfl) (by omega) (by omega)) ?_ (sf_S_cons (sf_s1 (x := ((xs z430.toNatClampNeg)).toInt) rfl (by omega) (by omega)) (sf_S_nil)) fun r432 hp431 thp431 Hhp431 fhp431 ahp431 php431 => ?_
  · intro q k h
    match q, h with
    | 0, h => cases h; exact bs_jR (bs_R.uq H (g := 10) rfl)
    | 1, h => cases h; exact sf_j0
    | q + 2, h => cases h
  obtain ⟨z433, rfl⟩ := bs_anI ahp431
  refine (show Ev _ 1287 ([some (.retAddr 0), some (.ref 0), some (.ref 69), some (.ref 87), some (.int z), a5, a6], [.int z433], (m + 8, k + 138), hp431) _ from ?_)
  refine Ev.step (j := 1288) (s' := ([some (.retAddr 0), some (.ref 0), some (.ref 69), some (.ref 87), some (.int z), a5, a6], [], (m + 8, k + 138), hp431)) rfl rfl ?_
  refine Ev.step (j := 1289) (s' := ([some (.retAddr 0), some (.ref 0), some (.ref 69), some (.ref 87), some (.int z), a5, a6], [.ref 69], (m + 8, k + 138), hp431)) rfl rfl ?_
  refine Ev.step (j := 1290) (s' := ([some (.retAddr 0), some (.ref 0), some (.ref 69), some (.ref 87), some (.int z), a5, a6], [.retAddr 0, .ref 69], (m + 8, k + 138), hp431)) rfl rfl ?_
  refine Ev.step (j := 1292) (s' := ([some (.retAddr 0), some (.ref 0), some (.ref 69), some (.ref 87), some (.int z), a5, a6], [.int z, .retAddr 0, .ref 69], (m + 8, k + 138), hp431)) rfl rfl ?_
  refine bs_lit (k := 1) rfl rfl fun z434 hz434 => ?_
  refine bs_add rfl (by omega) (by omega) fun z435 hz435 => ?_
  refine ls_sld rfl (by omega) (by omega) ?_
  have gz435 := h1 z435 (by omega)
  have ggz435 := n_range (xs z435.toNatClampNeg)
  refine (show Ev _ 1295 ([some (.retAddr 0), some (.ref 0), some (.ref 69), some (.ref 87), some (.int z), a5, a6], [.int (xs z435.toNatClampNeg), .ref 69], (m + 8, k + 138), hp431) _ from ?_)
  refine bs_call (K := kq_X11_log_hi) [.ref 69, .int (xs z435.toNatClampNeg)] [] rfl ct_X11_log_hi Hhp431 rfl rfl rfl (bs_rcv (g := 11) Hhp431 (bs_R.uq Hhp431 (g := 11) rfl) (by decide) rfl) (ls_room (Nat.le_of_ble_eq_true rfl) (by omega) (by omega)) ?_ (sf_S_cons (sf_s1 (x := ((xs z435.toNatClampNeg)).toInt) rfl (by omega) (by omega)) (sf_S_nil)) fun r437 hp436 thp436 Hhp436 fhp436 ahp436 php436 => ?_
  · intro q k h
    match q, h with
    | 0, h => cases h; exact bs_jR (bs_R.uq Hhp431 (g := 11) rfl)
    | 1, h => cases h; exact sf_j0
    | q + 2, h => cases h
  obtain ⟨z438, rfl⟩ := bs_anI ahp436
  refine (show Ev _ 1298 ([some (.retAddr 0), some (.ref 0), some (.ref 69), some (.ref 87), some (.int z), a5, a6], [.int z438], (m + 8 + 0, k + 138 + 0), hp436) _ from ?_)
  refine Ev.step (j := 1299) (s' := ([some (.retAddr 0), some (.ref 0), some (.ref 69), some (.ref 87), some (.int z), a5, a6], [], (m + 8 + 0, k + 138 + 0), hp436)) rfl rfl ?_
  refine Ev.step (j := 1440) (s' := ([some (.retAddr 0), some (.ref 0), some (.ref 69), some (.ref 87), some (.int z), a5, a6], [], (m + 8 + 0, k + 138 + 0), hp436)) rfl rfl ?_
  exact K _ _ _ _ _ _ Hhp436 True.intro (by omega) (by omega)
set_option maxRecDepth 100000 in
set_option maxHeartbeats 4000000 in
theorem op_logged {xs : Nat → Int32} {n : Nat} {z : Int32} {a5 a6 : Option Value} {m k : Nat} {hp : ab_H} {t : Nat → Nat} {Q : ab_O → Prop} (H : sf_h t hp) (hs : lw_eq hp) (hz0 : 0 ≤ z.toInt) (hz1 : z.toInt + 6 ≤ n) (hn : n ≤ 3072) (hm : m + 21 ≤ 601024) (hk : k + 410 ≤ 7293034) (K : lw_K xs n z m k Q) : Ev (LT xs n) 1302 ([some (.retAddr 0), some (.ref 0), some (.ref 69), some (.ref 87), some (.int z), a5, a6], [], (m, k), hp) Q := by
  refine Ev.step (j := 1303) (s' := ([some (.retAddr 0), some (.ref 0), some (.ref 69), some (.ref 87), some (.int z), a5, a6], [.ref 0], (m, k), hp)) rfl rfl ?_
  refine Ev.step (j := 1304) (s' := ([some (.retAddr 0), some (.ref 0), some (.ref 69), some (.ref 87), some (.int z), a5, a6], [.retAddr 0, .ref 0], (m, k), hp)) rfl rfl ?_
  refine Ev.step (j := 1306) (s' := ([some (.retAddr 0), some (.ref 0), some (.ref 69), some (.ref 87), some (.int z), a5, a6], [.int z, .retAddr 0, .ref 0], (m, k), hp)) rfl rfl ?_
  refine bs_lit (k := 1) rfl rfl fun z439 hz439 => ?_
  refine bs_add rfl (by omega) (by omega) fun z440 hz440 => ?_
  refine ls_sld rfl (by omega) (by omega) ?_
  refine (show Ev _ 1309 ([some (.retAddr 0), some (.ref 0), some (.ref 69), some (.ref 87), some (.int z), a5, a6], [.int (xs z440.toNatClampNeg), .ref 0], (m, k), hp) _ from ?_)
  refine bs_call (K := kq_X10_logged_0df2a5) [.ref 0, .int (xs z440.toNatClampNeg)] [] rfl ct_X10_logged_0df2a5 H rfl rfl rfl (bs_rcv (g := 10) H (bs_R.uq H (g := 10) rfl) (by decide) rfl) (ls_room (Nat.le_of_ble_eq_true rfl) (by omega) (by omega)) ?_ (sf_S_nil) fun r442 hp441 thp441 Hhp441 fhp441 ahp441 php441 => ?_
  · intro q k h
    match q, h with
    | 0, h => cases h; exact bs_jR (bs_R.uq H (g := 10) rfl)
    | 1, h => cases h; exact sf_j0
    | q + 2, h => cases h
  obtain ⟨z443, rfl⟩ := bs_anI ahp441
  refine (show Ev _ 1312 ([some (.retAddr 0), some (.ref 0), some (.ref 69), some (.ref 87), some (.int z), a5, a6], [.int z443], (m + 0, k + 0), hp441) _ from ?_)
  refine Ev.step (j := 1313) (s' := ([some (.retAddr 0), some (.ref 0), some (.ref 69), some (.ref 87), some (.int z), a5, a6], [], (m + 0, k + 0), hp441)) rfl rfl ?_
  refine Ev.step (j := 1314) (s' := ([some (.retAddr 0), some (.ref 0), some (.ref 69), some (.ref 87), some (.int z), a5, a6], [.ref 69], (m + 0, k + 0), hp441)) rfl rfl ?_
  refine Ev.step (j := 1315) (s' := ([some (.retAddr 0), some (.ref 0), some (.ref 69), some (.ref 87), some (.int z), a5, a6], [.retAddr 0, .ref 69], (m + 0, k + 0), hp441)) rfl rfl ?_
  refine Ev.step (j := 1317) (s' := ([some (.retAddr 0), some (.ref 0), some (.ref 69), some (.ref 87), some (.int z), a5, a6], [.int z, .retAddr 0, .ref 69], (m + 0, k + 0), hp441)) rfl rfl ?_
  refine bs_lit (k := 1) rfl rfl fun z444 hz444 => ?_
  refine bs_add rfl (by omega) (by omega) fun z445 hz445 => ?_
  refine ls_sld rfl (by omega) (by omega) ?_
  refine (show Ev _ 1320 ([some (.retAddr 0), some (.ref 0), some (.ref 69), some (.ref 87), some (.int z), a5, a6], [.int (xs z445.toNatClampNeg), .ref 69], (m + 0, k + 0), hp441) _ from ?_)
  refine bs_call (K := kq_X11_logged_3d45d6) [.ref 69, .int (xs z445.toNatClampNeg)] [] rfl ct_X11_logged_3d45d6 Hhp441 rfl rfl rfl (bs_rcv (g := 11) Hhp441 (bs_R.uq Hhp441 (g := 11) rfl) (by decide) rfl) (ls_room (Nat.le_of_ble_eq_true rfl) (by omega) (by omega)) ?_ (sf_S_nil) fun r447 hp446 thp446 Hhp446 fhp446 ahp446 php446 => ?_
  · intro q k h
    match q, h with
    | 0, h => cases h; exact bs_jR (bs_R.uq Hhp441 (g := 11) rfl)
    | 1, h => cases h; exact sf_j0
    | q + 2, h => cases h
  obtain ⟨z448, rfl⟩ := bs_anI ahp446
  refine (show Ev _ 1323 ([some (.retAddr 0), some (.ref 0), some (.ref 69), some (.ref 87), some (.int z), a5, a6], [.int z448], (m + 0 + 0, k + 0 + 0), hp446) _ from ?_)
  refine Ev.step (j := 1324) (s' := ([some (.retAddr 0), some (.ref 0), some (.ref 69), some (.ref 87), some (.int z), a5, a6], [], (m + 0 + 0, k + 0 + 0), hp446)) rfl rfl ?_
  refine Ev.step (j := 1440) (s' := ([some (.retAddr 0), some (.ref 0), some (.ref 69), some (.ref 87), some (.int z), a5, a6], [], (m + 0 + 0, k + 0 + 0), hp446)) rfl rfl ?_
  exact K _ _ _ _ _ _ Hhp446 True.intro (by omega) (by omega)
set_option maxRecDepth 100000 in
set_option maxHeartbeats 4000000 in
theorem op_sentence {xs : Nat → Int32} {n : Nat} {z : Int32} {a5 a6 : Option Value} {m k : Nat} {hp : ab_H} {t : Nat → Nat} {Q : ab_O → Prop} (H : sf_h t hp) (hs : lw_eq hp) (hz0 : 0 ≤ z.toInt) (hz1 : z.toInt + 6 ≤ n) (hn : n ≤ 3072) (hm : m + 21 ≤ 601024) (hk : k + 410 ≤ 7293034) (K : lw_K xs n z m k Q) : Ev (LT xs n) 1327 ([some (.retAddr 0), some (.ref 0), some (.ref 69), some (.ref 87), some (.int z), a5, a6], [], (m, k), hp) Q := by
  refine Ev.step (j := 1328) (s' := ([some (.retAddr 0), some (.ref 0), some (.ref 69), some (.ref 87), some (.int z), a5, a6], [.ref 0], (m, k), hp)) rfl rfl ?_
  refine bs_call (K := kq_X10_sentence_4c18a7) [.ref 0] [] rfl ct_X10_sentence_4c18a7 H rfl rfl rfl (bs_rcv (g := 10) H (bs_R.uq H (g := 10) rfl) (by decide) rfl) (ls_room (Nat.le_of_ble_eq_true rfl) (by omega) (by omega)) ?_ (sf_S_nil) fun r450 hp449 thp449 Hhp449 fhp449 ahp449 php449 => ?_
  · intro q k h
    match q, h with
    | 0, h => cases h; exact bs_jR (bs_R.uq H (g := 10) rfl)
    | q + 1, h => cases h
  obtain ⟨z451, rfl⟩ := bs_anI ahp449
  refine (show Ev _ 1331 ([some (.retAddr 0), some (.ref 0), some (.ref 69), some (.ref 87), some (.int z), a5, a6], [.int z451], (m + 0, k + 0), hp449) _ from ?_)
  refine Ev.step (j := 1332) (s' := ([some (.retAddr 0), some (.ref 0), some (.ref 69), some (.ref 87), some (.int z), a5, a6], [], (m + 0, k + 0), hp449)) rfl rfl ?_
  refine Ev.step (j := 1333) (s' := ([some (.retAddr 0), some (.ref 0), some (.ref 69), some (.ref 87), some (.int z), a5, a6], [.ref 69], (m + 0, k + 0), hp449)) rfl rfl ?_
  refine bs_call (K := kq_X11_sentence_h) [.ref 69] [] rfl ct_X11_sentence_h Hhp449 rfl rfl rfl (bs_rcv (g := 11) Hhp449 (bs_R.uq Hhp449 (g := 11) rfl) (by decide) rfl) (ls_room (Nat.le_of_ble_eq_true rfl) (by omega) (by omega)) ?_ (sf_S_nil) fun r453 hp452 thp452 Hhp452 fhp452 ahp452 php452 => ?_
  · intro q k h
    match q, h with
    | 0, h => cases h; exact bs_jR (bs_R.uq Hhp449 (g := 11) rfl)
    | q + 1, h => cases h
  obtain ⟨z454, rfl⟩ := bs_anI ahp452
  refine (show Ev _ 1336 ([some (.retAddr 0), some (.ref 0), some (.ref 69), some (.ref 87), some (.int z), a5, a6], [.int z454], (m + 0 + 0, k + 0 + 0), hp452) _ from ?_)
  refine Ev.step (j := 1337) (s' := ([some (.retAddr 0), some (.ref 0), some (.ref 69), some (.ref 87), some (.int z), a5, a6], [], (m + 0 + 0, k + 0 + 0), hp452)) rfl rfl ?_
  refine Ev.step (j := 1440) (s' := ([some (.retAddr 0), some (.ref 0), some (.ref 69), some (.ref 87), some (.int z), a5, a6], [], (m + 0 + 0, k + 0 + 0), hp452)) rfl rfl ?_
  exact K _ _ _ _ _ _ Hhp452 True.intro (by omega) (by omega)
set_option maxRecDepth 100000 in
set_option maxHeartbeats 4000000 in
theorem op_said {xs : Nat → Int32} {n : Nat} {z : Int32} {a5 a6 : Option Value} {m k : Nat} {hp : ab_H} {t : Nat → Nat} {Q : ab_O → Prop} (H : sf_h t hp) (hs : lw_eq hp) (hz0 : 0 ≤ z.toInt) (hz1 : z.toInt + 6 ≤ n) (hn : n ≤ 3072) (hm : m + 21 ≤ 601024) (hk : k + 410 ≤ 7293034) (K : lw_K xs n z m k Q) : Ev (LT xs n) 1340 ([some (.retAddr 0), some (.ref 0), some (.ref 69), some (.ref 87), some (.int z), a5, a6], [], (m, k), hp) Q := by
  refine Ev.step (j := 1341) (s' := ([some (.retAddr 0), some (.ref 0), some (.ref 69), some (.ref 87), some (.int z), a5, a6], [.ref 0], (m, k), hp)) rfl rfl ?_
  refine Ev.step (j := 1342) (s' := ([some (.retAddr 0), some (.ref 0), some (.ref 69), some (.ref 87), some (.int z), a5, a6], [.retAddr 0, .ref 0], (m, k), hp)) rfl rfl ?_
  refine Ev.step (j := 1344) (s' := ([some (.retAddr 0), some (.ref 0), some (.ref 69), some (.ref 87), some (.int z), a5, a6], [.int z, .retAddr 0, .ref 0], (m, k), hp)) rfl rfl ?_
  refine bs_lit (k := 1) rfl rfl fun z455 hz455 => ?_
  refine bs_add rfl (by omega) (by omega) fun z456 hz456 => ?_
  refine ls_sld rfl (by omega) (by omega) ?_
  refine (show Ev _ 1347 ([some (.retAddr 0), some (.ref 0), some (.ref 69), some (.ref 87), some (.int z), a5, a6], [.int (xs z456.toNatClampNeg), .ref 0], (m, k), hp) _ from ?_)
  refine bs_call (K := kq_X10_said_0df2a5) [.ref 0, .int (xs z456.toNatClampNeg)] [] rfl ct_X10_said_0df2a5 H rfl rfl rfl (bs_rcv (g := 10) H (bs_R.uq H (g := 10) rfl) (by decide) rfl) (ls_room (Nat.le_of_ble_eq_true rfl) (by omega) (by omega)) ?_ (sf_S_nil) fun r458 hp457 thp457 Hhp457 fhp457 ahp457 php457 => ?_
  · intro q k h
    match q, h with
    | 0, h => cases h; exact bs_jR (bs_R.uq H (g := 10) rfl)
    | 1, h => cases h; exact sf_j0
    | q + 2, h => cases h
  obtain ⟨z459, rfl⟩ := bs_anI ahp457
  refine (show Ev _ 1350 ([some (.retAddr 0), some (.ref 0), some (.ref 69), some (.ref 87), some (.int z), a5, a6], [.int z459], (m + 0, k + 0), hp457) _ from ?_)
  refine Ev.step (j := 1351) (s' := ([some (.retAddr 0), some (.ref 0), some (.ref 69), some (.ref 87), some (.int z), a5, a6], [], (m + 0, k + 0), hp457)) rfl rfl ?_
  refine Ev.step (j := 1352) (s' := ([some (.retAddr 0), some (.ref 0), some (.ref 69), some (.ref 87), some (.int z), a5, a6], [.ref 69], (m + 0, k + 0), hp457)) rfl rfl ?_
  refine Ev.step (j := 1353) (s' := ([some (.retAddr 0), some (.ref 0), some (.ref 69), some (.ref 87), some (.int z), a5, a6], [.retAddr 0, .ref 69], (m + 0, k + 0), hp457)) rfl rfl ?_
  refine Ev.step (j := 1355) (s' := ([some (.retAddr 0), some (.ref 0), some (.ref 69), some (.ref 87), some (.int z), a5, a6], [.int z, .retAddr 0, .ref 69], (m + 0, k + 0), hp457)) rfl rfl ?_
  refine bs_lit (k := 1) rfl rfl fun z460 hz460 => ?_
  refine bs_add rfl (by omega) (by omega) fun z461 hz461 => ?_
  refine ls_sld rfl (by omega) (by omega) ?_
  refine (show Ev _ 1358 ([some (.retAddr 0), some (.ref 0), some (.ref 69), some (.ref 87), some (.int z), a5, a6], [.int (xs z461.toNatClampNeg), .ref 69], (m + 0, k + 0), hp457) _ from ?_)
  refine bs_call (K := kq_X11_said_3d45d6) [.ref 69, .int (xs z461.toNatClampNeg)] [] rfl ct_X11_said_3d45d6 Hhp457 rfl rfl rfl (bs_rcv (g := 11) Hhp457 (bs_R.uq Hhp457 (g := 11) rfl) (by decide) rfl) (ls_room (Nat.le_of_ble_eq_true rfl) (by omega) (by omega)) ?_ (sf_S_nil) fun r463 hp462 thp462 Hhp462 fhp462 ahp462 php462 => ?_
  · intro q k h
    match q, h with
    | 0, h => cases h; exact bs_jR (bs_R.uq Hhp457 (g := 11) rfl)
    | 1, h => cases h; exact sf_j0
    | q + 2, h => cases h
  obtain ⟨z464, rfl⟩ := bs_anI ahp462
  refine (show Ev _ 1361 ([some (.retAddr 0), some (.ref 0), some (.ref 69), some (.ref 87), some (.int z), a5, a6], [.int z464], (m + 0 + 0, k + 0 + 0), hp462) _ from ?_)
  refine Ev.step (j := 1362) (s' := ([some (.retAddr 0), some (.ref 0), some (.ref 69), some (.ref 87), some (.int z), a5, a6], [], (m + 0 + 0, k + 0 + 0), hp462)) rfl rfl ?_
  refine Ev.step (j := 1440) (s' := ([some (.retAddr 0), some (.ref 0), some (.ref 69), some (.ref 87), some (.int z), a5, a6], [], (m + 0 + 0, k + 0 + 0), hp462)) rfl rfl ?_
  exact K _ _ _ _ _ _ Hhp462 True.intro (by omega) (by omega)
set_option maxRecDepth 100000 in
set_option maxHeartbeats 4000000 in
theorem op_image {xs : Nat → Int32} {n : Nat} {z : Int32} {a5 a6 : Option Value} {m k : Nat} {hp : ab_H} {t : Nat → Nat} {Q : ab_O → Prop} (H : sf_h t hp) (hs : lw_eq hp) (hz0 : 0 ≤ z.toInt) (hz1 : z.toInt + 6 ≤ n) (hn : n ≤ 3072) (hm : m + 21 ≤ 601024) (hk : k + 410 ≤ 7293034) (K : lw_K xs n z m k Q) : Ev (LT xs n) 1365 ([some (.retAddr 0), some (.ref 0), some (.ref 69), some (.ref 87), some (.int z), a5, a6], [], (m, k), hp) Q := by
  refine Ev.step (j := 1366) (s' := ([some (.retAddr 0), some (.ref 0), some (.ref 69), some (.ref 87), some (.int z), a5, a6], [.ref 0], (m, k), hp)) rfl rfl ?_
  refine Ev.step (j := 1367) (s' := ([some (.retAddr 0), some (.ref 0), some (.ref 69), some (.ref 87), some (.int z), a5, a6], [.retAddr 0, .ref 0], (m, k), hp)) rfl rfl ?_
  refine Ev.step (j := 1369) (s' := ([some (.retAddr 0), some (.ref 0), some (.ref 69), some (.ref 87), some (.int z), a5, a6], [.int z, .retAddr 0, .ref 0], (m, k), hp)) rfl rfl ?_
  refine bs_lit (k := 1) rfl rfl fun z465 hz465 => ?_
  refine bs_add rfl (by omega) (by omega) fun z466 hz466 => ?_
  refine ls_sld rfl (by omega) (by omega) ?_
  refine (show Ev _ 1372 ([some (.retAddr 0), some (.ref 0), some (.ref 69), some (.ref 87), some (.int z), a5, a6], [.int (xs z466.toNatClampNeg), .ref 0], (m, k), hp) _ from ?_)
  refine bs_callx (K := kq_X10_image_k) [.ref 0, .int (xs z466.toNatClampNeg)] [] rfl ce_X10_image_k H rfl rfl rfl (bs_rcv (g := 10) H (bs_R.uq H (g := 10) rfl) (by decide) rfl) (ls_room (Nat.le_of_ble_eq_true rfl) (by omega) (by omega)) ?_ (sf_S_nil) fun r468 hp467 thp467 Hhp467 fhp467 ahp467 php467 xhp467 => ?_
  · intro q k h
    match q, h with
    | 0, h => cases h; exact bs_jR (bs_R.uq H (g := 10) rfl)
    | 1, h => cases h; exact sf_j0
    | q + 2, h => cases h
  obtain ⟨z469, rfl⟩ := bs_anI ahp467
  obtain ⟨⟨w1, ew1, ez1⟩, i1a, i1b⟩ := xhp467 _ rfl
  obtain rfl := Value.int.inj (Option.some.inj ew1)
  refine (show Ev _ 1375 ([some (.retAddr 0), some (.ref 0), some (.ref 69), some (.ref 87), some (.int z), a5, a6], [.int z469], (m + 21, k + 410), hp467) _ from ?_)
  refine Ev.step (j := 1376) (s' := ([some (.retAddr 0), some (.ref 0), some (.ref 69), some (.ref 87), some (.int z), a5, a6], [.ref 69, .int z469], (m + 21, k + 410), hp467)) rfl rfl ?_
  refine Ev.step (j := 1377) (s' := ([some (.retAddr 0), some (.ref 0), some (.ref 69), some (.ref 87), some (.int z), a5, a6], [.retAddr 0, .ref 69, .int z469], (m + 21, k + 410), hp467)) rfl rfl ?_
  refine Ev.step (j := 1379) (s' := ([some (.retAddr 0), some (.ref 0), some (.ref 69), some (.ref 87), some (.int z), a5, a6], [.int z, .retAddr 0, .ref 69, .int z469], (m + 21, k + 410), hp467)) rfl rfl ?_
  refine bs_lit (k := 1) rfl rfl fun z470 hz470 => ?_
  refine bs_add rfl (by omega) (by omega) fun z471 hz471 => ?_
  refine ls_sld rfl (by omega) (by omega) ?_
  refine (show Ev _ 1382 ([some (.retAddr 0), some (.ref 0), some (.ref 69), some (.ref 87), some (.int z), a5, a6], [.int (xs z471.toNatClampNeg), .ref 69, .int z469], (m + 21, k + 410), hp467) _ from ?_)
  refine bs_callx (K := kq_X11_image_k) [.ref 69, .int (xs z471.toNatClampNeg)] [.int z469] rfl ce_X11_image_k Hhp467 rfl rfl rfl (bs_rcv (g := 11) Hhp467 (bs_R.uq Hhp467 (g := 11) rfl) (by decide) rfl) (ls_room (Nat.le_of_ble_eq_true rfl) (by omega) (by omega)) ?_ (sf_S_nil) fun r473 hp472 thp472 Hhp472 fhp472 ahp472 php472 xhp472 => ?_
  · intro q k h
    match q, h with
    | 0, h => cases h; exact bs_jR (bs_R.uq Hhp467 (g := 11) rfl)
    | 1, h => cases h; exact sf_j0
    | q + 2, h => cases h
  obtain ⟨z474, rfl⟩ := bs_anI ahp472
  obtain ⟨⟨w2, ew2, ez2⟩, i2a, i2b⟩ := xhp472 _ rfl
  obtain rfl := Value.int.inj (Option.some.inj ew2)
  rw [show z471 = z466 from Int32.toInt_inj.mp (by omega)] at ez2 i2a i2b
  refine (show Ev _ 1385 ([some (.retAddr 0), some (.ref 0), some (.ref 69), some (.ref 87), some (.int z), a5, a6], [.int z474, .int z469], (m + 21 + 0, k + 410 + 0), hp472) _ from ?_)
  refine bs_eq rfl (fun c => ?_) (fun c => absurd (by omega) c)
  exact K _ _ _ _ _ _ Hhp472 hs (by omega) (by omega)
set_option maxRecDepth 100000 in
set_option maxHeartbeats 4000000 in
theorem op_restore {xs : Nat → Int32} {n : Nat} {z : Int32} {a5 a6 : Option Value} {m k : Nat} {hp : ab_H} {t : Nat → Nat} {Q : ab_O → Prop} (H : sf_h t hp) (hs : lw_eq hp) (hz0 : 0 ≤ z.toInt) (hz1 : z.toInt + 6 ≤ n) (hn : n ≤ 3072) (hm : m + 21 ≤ 601024) (hk : k + 410 ≤ 7293034) (K : lw_K xs n z m k Q) : Ev (LT xs n) 1390 ([some (.retAddr 0), some (.ref 0), some (.ref 69), some (.ref 87), some (.int z), a5, a6], [], (m, k), hp) Q := by
  refine Ev.step (j := 1391) (s' := ([some (.retAddr 0), some (.ref 0), some (.ref 69), some (.ref 87), some (.int z), a5, a6], [.ref 0], (m, k), hp)) rfl rfl ?_
  refine Ev.step (j := 1392) (s' := ([some (.retAddr 0), some (.ref 0), some (.ref 69), some (.ref 87), some (.int z), a5, a6], [.retAddr 0, .ref 0], (m, k), hp)) rfl rfl ?_
  refine Ev.step (j := 1394) (s' := ([some (.retAddr 0), some (.ref 0), some (.ref 69), some (.ref 87), some (.int z), a5, a6], [.int z, .retAddr 0, .ref 0], (m, k), hp)) rfl rfl ?_
  refine bs_lit (k := 1) rfl rfl fun z475 hz475 => ?_
  refine bs_add rfl (by omega) (by omega) fun z476 hz476 => ?_
  refine ls_sld rfl (by omega) (by omega) ?_
  refine (show Ev _ 1397 ([some (.retAddr 0), some (.ref 0), some (.ref 69), some (.ref 87), some (.int z), a5, a6], [.int (xs z476.toNatClampNeg), .ref 0], (m, k), hp) _ from ?_)
  refine bs_call (K := kq_X10_restore_r) [.ref 0, .int (xs z476.toNatClampNeg)] [] rfl ct_X10_restore_r H rfl rfl rfl (bs_rcv (g := 10) H (bs_R.uq H (g := 10) rfl) (by decide) rfl) (ls_room (Nat.le_of_ble_eq_true rfl) (by omega) (by omega)) ?_ (sf_S_nil) fun r478 hp477 thp477 Hhp477 fhp477 ahp477 php477 => ?_
  · intro q k h
    match q, h with
    | 0, h => cases h; exact bs_jR (bs_R.uq H (g := 10) rfl)
    | 1, h => cases h; exact sf_j0
    | q + 2, h => cases h
  obtain ⟨z479, rfl⟩ := bs_anI ahp477
  refine (show Ev _ 1400 ([some (.retAddr 0), some (.ref 0), some (.ref 69), some (.ref 87), some (.int z), a5, a6], [.int z479], (m + 0, k + 0), hp477) _ from ?_)
  refine Ev.step (j := 1401) (s' := ([some (.retAddr 0), some (.ref 0), some (.ref 69), some (.ref 87), some (.int z), a5, a6], [], (m + 0, k + 0), hp477)) rfl rfl ?_
  refine Ev.step (j := 1402) (s' := ([some (.retAddr 0), some (.ref 0), some (.ref 69), some (.ref 87), some (.int z), a5, a6], [.ref 69], (m + 0, k + 0), hp477)) rfl rfl ?_
  refine Ev.step (j := 1403) (s' := ([some (.retAddr 0), some (.ref 0), some (.ref 69), some (.ref 87), some (.int z), a5, a6], [.retAddr 0, .ref 69], (m + 0, k + 0), hp477)) rfl rfl ?_
  refine Ev.step (j := 1405) (s' := ([some (.retAddr 0), some (.ref 0), some (.ref 69), some (.ref 87), some (.int z), a5, a6], [.int z, .retAddr 0, .ref 69], (m + 0, k + 0), hp477)) rfl rfl ?_
  refine bs_lit (k := 1) rfl rfl fun z480 hz480 => ?_
  refine bs_add rfl (by omega) (by omega) fun z481 hz481 => ?_
  refine ls_sld rfl (by omega) (by omega) ?_
  refine (show Ev _ 1408 ([some (.retAddr 0), some (.ref 0), some (.ref 69), some (.ref 87), some (.int z), a5, a6], [.int (xs z481.toNatClampNeg), .ref 69], (m + 0, k + 0), hp477) _ from ?_)
  refine bs_call (K := kq_X11_restore_r) [.ref 69, .int (xs z481.toNatClampNeg)] [] rfl ct_X11_restore_r Hhp477 rfl rfl rfl (bs_rcv (g := 11) Hhp477 (bs_R.uq Hhp477 (g := 11) rfl) (by decide) rfl) (ls_room (Nat.le_of_ble_eq_true rfl) (by omega) (by omega)) ?_ (sf_S_nil) fun r483 hp482 thp482 Hhp482 fhp482 ahp482 php482 => ?_
  · intro q k h
    match q, h with
    | 0, h => cases h; exact bs_jR (bs_R.uq Hhp477 (g := 11) rfl)
    | 1, h => cases h; exact sf_j0
    | q + 2, h => cases h
  obtain ⟨z484, rfl⟩ := bs_anI ahp482
  refine (show Ev _ 1411 ([some (.retAddr 0), some (.ref 0), some (.ref 69), some (.ref 87), some (.int z), a5, a6], [.int z484], (m + 0 + 0, k + 0 + 0), hp482) _ from ?_)
  refine Ev.step (j := 1412) (s' := ([some (.retAddr 0), some (.ref 0), some (.ref 69), some (.ref 87), some (.int z), a5, a6], [], (m + 0 + 0, k + 0 + 0), hp482)) rfl rfl ?_
  refine Ev.step (j := 1440) (s' := ([some (.retAddr 0), some (.ref 0), some (.ref 69), some (.ref 87), some (.int z), a5, a6], [], (m + 0 + 0, k + 0 + 0), hp482)) rfl rfl ?_
  exact K _ _ _ _ _ _ Hhp482 True.intro (by omega) (by omega)
set_option maxRecDepth 100000 in
set_option maxHeartbeats 4000000 in
theorem op_count {xs : Nat → Int32} {n : Nat} {z : Int32} {a5 a6 : Option Value} {m k : Nat} {hp : ab_H} {t : Nat → Nat} {Q : ab_O → Prop} (H : sf_h t hp) (hs : lw_eq hp) (hz0 : 0 ≤ z.toInt) (hz1 : z.toInt + 6 ≤ n) (hn : n ≤ 3072) (hm : m + 21 ≤ 601024) (hk : k + 410 ≤ 7293034) (K : lw_K xs n z m k Q) : Ev (LT xs n) 1415 ([some (.retAddr 0), some (.ref 0), some (.ref 69), some (.ref 87), some (.int z), a5, a6], [], (m, k), hp) Q := by
  refine Ev.step (j := 1416) (s' := ([some (.retAddr 0), some (.ref 0), some (.ref 69), some (.ref 87), some (.int z), a5, a6], [.ref 0], (m, k), hp)) rfl rfl ?_
  refine Ev.step (j := 1417) (s' := ([some (.retAddr 0), some (.ref 0), some (.ref 69), some (.ref 87), some (.int z), a5, a6], [.retAddr 0, .ref 0], (m, k), hp)) rfl rfl ?_
  refine Ev.step (j := 1419) (s' := ([some (.retAddr 0), some (.ref 0), some (.ref 69), some (.ref 87), some (.int z), a5, a6], [.int z, .retAddr 0, .ref 0], (m, k), hp)) rfl rfl ?_
  refine bs_lit (k := 1) rfl rfl fun z485 hz485 => ?_
  refine bs_add rfl (by omega) (by omega) fun z486 hz486 => ?_
  refine ls_sld rfl (by omega) (by omega) ?_
  refine (show Ev _ 1422 ([some (.retAddr 0), some (.ref 0), some (.ref 69), some (.ref 87), some (.int z), a5, a6], [.int (xs z486.toNatClampNeg), .ref 0], (m, k), hp) _ from ?_)
  refine bs_call (K := kq_X10_count_0df2a5) [.ref 0, .int (xs z486.toNatClampNeg)] [] rfl ct_X10_count_0df2a5 H rfl rfl rfl (bs_rcv (g := 10) H (bs_R.uq H (g := 10) rfl) (by decide) rfl) (ls_room (Nat.le_of_ble_eq_true rfl) (by omega) (by omega)) ?_ (sf_S_nil) fun r488 hp487 thp487 Hhp487 fhp487 ahp487 php487 => ?_
  · intro q k h
    match q, h with
    | 0, h => cases h; exact bs_jR (bs_R.uq H (g := 10) rfl)
    | 1, h => cases h; exact sf_j0
    | q + 2, h => cases h
  obtain ⟨z489, rfl⟩ := bs_anI ahp487
  refine (show Ev _ 1425 ([some (.retAddr 0), some (.ref 0), some (.ref 69), some (.ref 87), some (.int z), a5, a6], [.int z489], (m + 0, k + 0), hp487) _ from ?_)
  refine Ev.step (j := 1426) (s' := ([some (.retAddr 0), some (.ref 0), some (.ref 69), some (.ref 87), some (.int z), a5, a6], [], (m + 0, k + 0), hp487)) rfl rfl ?_
  refine Ev.step (j := 1427) (s' := ([some (.retAddr 0), some (.ref 0), some (.ref 69), some (.ref 87), some (.int z), a5, a6], [.ref 69], (m + 0, k + 0), hp487)) rfl rfl ?_
  refine Ev.step (j := 1428) (s' := ([some (.retAddr 0), some (.ref 0), some (.ref 69), some (.ref 87), some (.int z), a5, a6], [.retAddr 0, .ref 69], (m + 0, k + 0), hp487)) rfl rfl ?_
  refine Ev.step (j := 1430) (s' := ([some (.retAddr 0), some (.ref 0), some (.ref 69), some (.ref 87), some (.int z), a5, a6], [.int z, .retAddr 0, .ref 69], (m + 0, k + 0), hp487)) rfl rfl ?_
  refine bs_lit (k := 1) rfl rfl fun z490 hz490 => ?_
  refine bs_add rfl (by omega) (by omega) fun z491 hz491 => ?_
  refine ls_sld rfl (by omega) (by omega) ?_
  refine (show Ev _ 1433 ([some (.retAddr 0), some (.ref 0), some (.ref 69), some (.ref 87), some (.int z), a5, a6], [.int (xs z491.toNatClampNeg), .ref 69], (m + 0, k + 0), hp487) _ from ?_)
  refine bs_call (K := kq_X11_count_3d45d6) [.ref 69, .int (xs z491.toNatClampNeg)] [] rfl ct_X11_count_3d45d6 Hhp487 rfl rfl rfl (bs_rcv (g := 11) Hhp487 (bs_R.uq Hhp487 (g := 11) rfl) (by decide) rfl) (ls_room (Nat.le_of_ble_eq_true rfl) (by omega) (by omega)) ?_ (sf_S_nil) fun r493 hp492 thp492 Hhp492 fhp492 ahp492 php492 => ?_
  · intro q k h
    match q, h with
    | 0, h => cases h; exact bs_jR (bs_R.uq Hhp487 (g := 11) rfl)
    | 1, h => cases h; exact sf_j0
    | q + 2, h => cases h
  obtain ⟨z494, rfl⟩ := bs_anI ahp492
  refine (show Ev _ 1436 ([some (.retAddr 0), some (.ref 0), some (.ref 69), some (.ref 87), some (.int z), a5, a6], [.int z494], (m + 0 + 0, k + 0 + 0), hp492) _ from ?_)
  refine Ev.step (j := 1437) (s' := ([some (.retAddr 0), some (.ref 0), some (.ref 69), some (.ref 87), some (.int z), a5, a6], [], (m + 0 + 0, k + 0 + 0), hp492)) rfl rfl ?_
  refine Ev.step (j := 1440) (s' := ([some (.retAddr 0), some (.ref 0), some (.ref 69), some (.ref 87), some (.int z), a5, a6], [], (m + 0 + 0, k + 0 + 0), hp492)) rfl rfl ?_
  exact K _ _ _ _ _ _ Hhp492 True.intro (by omega) (by omega)
