set_option maxRecDepth 100000 in
set_option maxHeartbeats 4000000 in
theorem op_price {xs : Nat → Int32} {n : Nat} {z : Int32} {a5 a6 : Option Value} {m k : Nat} {hp : ab_H} {t : Nat → Nat} {Q : ab_O → Prop} (H : sf_h t hp) (hs : lw_eq hp) (hz0 : 0 ≤ z.toInt) (hz1 : z.toInt + 6 ≤ n) (hn : n ≤ 3072) (hm : m + 21 ≤ 601024) (hk : k + 410 ≤ 7293034) (K : lw_K xs n z m k Q) : Ev (LT xs n) 1103 ([some (.retAddr 0), some (.ref 0), some (.ref 69), some (.ref 87), some (.int z), a5, a6], [], (m, k), hp) Q := by
  refine Ev.step (j := 1104) (s' := ([some (.retAddr 0), some (.ref 0), some (.ref 69), some (.ref 87), some (.int z), a5, a6], [.ref 0], (m, k), hp)) rfl rfl ?_
  refine Ev.step (j := 1105) (s' := ([some (.retAddr 0), some (.ref 0), some (.ref 69), some (.ref 87), some (.int z), a5, a6], [.retAddr 0, .ref 0], (m, k), hp)) rfl rfl ?_
  refine Ev.step (j := 1107) (s' := ([some (.retAddr 0), some (.ref 0), some (.ref 69), some (.ref 87), some (.int z), a5, a6], [.int z, .retAddr 0, .ref 0], (m, k), hp)) rfl rfl ?_
  refine bs_lit (k := 1) rfl rfl fun z393 hz393 => ?_
  refine bs_add rfl (by omega) (by omega) fun z394 hz394 => ?_
  refine ls_sld rfl (by omega) (by omega) ?_
  refine (show Ev _ 1110 ([some (.retAddr 0), some (.ref 0), some (.ref 69), some (.ref 87), some (.int z), a5, a6], [.int (xs z394.toNatClampNeg), .ref 0], (m, k), hp) _ from ?_)
  refine Ev.step (j := 1111) (s' := ([some (.retAddr 0), some (.ref 0), some (.ref 69), some (.ref 87), some (.int z), a5, a6], [.retAddr 0, .int (xs z394.toNatClampNeg), .ref 0], (m, k), hp)) rfl rfl ?_
  refine Ev.step (j := 1113) (s' := ([some (.retAddr 0), some (.ref 0), some (.ref 69), some (.ref 87), some (.int z), a5, a6], [.int z, .retAddr 0, .int (xs z394.toNatClampNeg), .ref 0], (m, k), hp)) rfl rfl ?_
  refine bs_lit (k := 2) rfl rfl fun z395 hz395 => ?_
  refine bs_add rfl (by omega) (by omega) fun z396 hz396 => ?_
  refine ls_sld rfl (by omega) (by omega) ?_
  refine (show Ev _ 1116 ([some (.retAddr 0), some (.ref 0), some (.ref 69), some (.ref 87), some (.int z), a5, a6], [.int (xs z396.toNatClampNeg), .int (xs z394.toNatClampNeg), .ref 0], (m, k), hp) _ from ?_)
  refine bs_call (K := kq_X10_price_57b5ea) [.ref 0, .int (xs z394.toNatClampNeg), .int (xs z396.toNatClampNeg)] [] rfl ct_X10_price_57b5ea H rfl rfl rfl (bs_rcv (g := 10) H (bs_R.uq H (g := 10) rfl) (by decide) rfl) (ls_room (Nat.le_of_ble_eq_true rfl) (by omega) (by omega)) ?_ (sf_S_nil) fun r398 hp397 thp397 Hhp397 fhp397 ahp397 php397 => ?_
  · intro q k h
    match q, h with
    | 0, h => cases h; exact bs_jR (bs_R.uq H (g := 10) rfl)
    | 1, h => cases h; exact sf_j0
    | 2, h => cases h; exact sf_j0
    | q + 3, h => cases h
  obtain ⟨z399, rfl⟩ := bs_anI ahp397
  have E400 := lw_keep H fhp397 rfl rfl hs
  refine (show Ev _ 1119 ([some (.retAddr 0), some (.ref 0), some (.ref 69), some (.ref 87), some (.int z), a5, a6], [.int z399], (m + 0, k + 0), hp397) _ from ?_)
  refine Ev.step (j := 1120) (s' := ([some (.retAddr 0), some (.ref 0), some (.ref 69), some (.ref 87), some (.int z), a5, a6], [], (m + 0, k + 0), hp397)) rfl rfl ?_
  refine Ev.step (j := 1121) (s' := ([some (.retAddr 0), some (.ref 0), some (.ref 69), some (.ref 87), some (.int z), a5, a6], [.ref 69], (m + 0, k + 0), hp397)) rfl rfl ?_
  refine Ev.step (j := 1122) (s' := ([some (.retAddr 0), some (.ref 0), some (.ref 69), some (.ref 87), some (.int z), a5, a6], [.retAddr 0, .ref 69], (m + 0, k + 0), hp397)) rfl rfl ?_
  refine Ev.step (j := 1124) (s' := ([some (.retAddr 0), some (.ref 0), some (.ref 69), some (.ref 87), some (.int z), a5, a6], [.int z, .retAddr 0, .ref 69], (m + 0, k + 0), hp397)) rfl rfl ?_
  refine bs_lit (k := 1) rfl rfl fun z401 hz401 => ?_
  refine bs_add rfl (by omega) (by omega) fun z402 hz402 => ?_
  refine ls_sld rfl (by omega) (by omega) ?_
  refine (show Ev _ 1127 ([some (.retAddr 0), some (.ref 0), some (.ref 69), some (.ref 87), some (.int z), a5, a6], [.int (xs z402.toNatClampNeg), .ref 69], (m + 0, k + 0), hp397) _ from ?_)
  refine Ev.step (j := 1128) (s' := ([some (.retAddr 0), some (.ref 0), some (.ref 69), some (.ref 87), some (.int z), a5, a6], [.retAddr 0, .int (xs z402.toNatClampNeg), .ref 69], (m + 0, k + 0), hp397)) rfl rfl ?_
  refine Ev.step (j := 1130) (s' := ([some (.retAddr 0), some (.ref 0), some (.ref 69), some (.ref 87), some (.int z), a5, a6], [.int z, .retAddr 0, .int (xs z402.toNatClampNeg), .ref 69], (m + 0, k + 0), hp397)) rfl rfl ?_
  refine bs_lit (k := 2) rfl rfl fun z403 hz403 => ?_
  refine bs_add rfl (by omega) (by omega) fun z404 hz404 => ?_
  refine ls_sld rfl (by omega) (by omega) ?_
  refine (show Ev _ 1133 ([some (.retAddr 0), some (.ref 0), some (.ref 69), some (.ref 87), some (.int z), a5, a6], [.int (xs z404.toNatClampNeg), .int (xs z402.toNatClampNeg), .ref 69], (m + 0, k + 0), hp397) _ from ?_)
  refine bs_call (K := kq_X11_price_334faa) [.ref 69, .int (xs z402.toNatClampNeg), .int (xs z404.toNatClampNeg)] [] rfl ct_X11_price_334faa Hhp397 rfl rfl rfl (bs_rcv (g := 11) Hhp397 (bs_R.uq Hhp397 (g := 11) rfl) (by decide) rfl) (ls_room (Nat.le_of_ble_eq_true rfl) (by omega) (by omega)) ?_ (sf_S_nil) fun r406 hp405 thp405 Hhp405 fhp405 ahp405 php405 => ?_
  · intro q k h
    match q, h with
    | 0, h => cases h; exact bs_jR (bs_R.uq Hhp397 (g := 11) rfl)
    | 1, h => cases h; exact sf_j0
    | 2, h => cases h; exact sf_j0
    | q + 3, h => cases h
  obtain ⟨z407, rfl⟩ := bs_anI ahp405
  have E408 := lw_keep Hhp397 fhp405 rfl rfl E400
  refine (show Ev _ 1136 ([some (.retAddr 0), some (.ref 0), some (.ref 69), some (.ref 87), some (.int z), a5, a6], [.int z407], (m + 0 + 0, k + 0 + 0), hp405) _ from ?_)
  refine Ev.step (j := 1137) (s' := ([some (.retAddr 0), some (.ref 0), some (.ref 69), some (.ref 87), some (.int z), a5, a6], [], (m + 0 + 0, k + 0 + 0), hp405)) rfl rfl ?_
  refine Ev.step (j := 1440) (s' := ([some (.retAddr 0), some (.ref 0), some (.ref 69), some (.ref 87), some (.int z), a5, a6], [], (m + 0 + 0, k + 0 + 0), hp405)) rfl rfl ?_
  exact K _ _ _ _ _ _ Hhp405 E408 (by omega) (by omega)
set_option maxRecDepth 100000 in
set_option maxHeartbeats 4000000 in
theorem op_dearest {xs : Nat → Int32} {n : Nat} {z : Int32} {a5 a6 : Option Value} {m k : Nat} {hp : ab_H} {t : Nat → Nat} {Q : ab_O → Prop} (H : sf_h t hp) (hs : lw_eq hp) (hz0 : 0 ≤ z.toInt) (hz1 : z.toInt + 6 ≤ n) (hn : n ≤ 3072) (hm : m + 21 ≤ 601024) (hk : k + 410 ≤ 7293034) (K : lw_K xs n z m k Q) : Ev (LT xs n) 1140 ([some (.retAddr 0), some (.ref 0), some (.ref 69), some (.ref 87), some (.int z), a5, a6], [], (m, k), hp) Q := by
  refine Ev.step (j := 1141) (s' := ([some (.retAddr 0), some (.ref 0), some (.ref 69), some (.ref 87), some (.int z), a5, a6], [.ref 0], (m, k), hp)) rfl rfl ?_
  refine bs_call (K := kq_X10_dearest_4c18a7) [.ref 0] [] rfl ct_X10_dearest_4c18a7 H rfl rfl rfl (bs_rcv (g := 10) H (bs_R.uq H (g := 10) rfl) (by decide) rfl) (ls_room (Nat.le_of_ble_eq_true rfl) (by omega) (by omega)) ?_ (sf_S_nil) fun r410 hp409 thp409 Hhp409 fhp409 ahp409 php409 => ?_
  · intro q k h
    match q, h with
    | 0, h => cases h; exact bs_jR (bs_R.uq H (g := 10) rfl)
    | q + 1, h => cases h
  obtain ⟨z411, rfl⟩ := bs_anI ahp409
  have E412 := lw_keep H fhp409 rfl rfl hs
  refine (show Ev _ 1144 ([some (.retAddr 0), some (.ref 0), some (.ref 69), some (.ref 87), some (.int z), a5, a6], [.int z411], (m + 0, k + 0), hp409) _ from ?_)
  refine Ev.step (j := 1145) (s' := ([some (.retAddr 0), some (.ref 0), some (.ref 69), some (.ref 87), some (.int z), a5, a6], [], (m + 0, k + 0), hp409)) rfl rfl ?_
  refine Ev.step (j := 1146) (s' := ([some (.retAddr 0), some (.ref 0), some (.ref 69), some (.ref 87), some (.int z), a5, a6], [.ref 69], (m + 0, k + 0), hp409)) rfl rfl ?_
  refine bs_call (K := kq_X11_dearest_6afe8b) [.ref 69] [] rfl ct_X11_dearest_6afe8b Hhp409 rfl rfl rfl (bs_rcv (g := 11) Hhp409 (bs_R.uq Hhp409 (g := 11) rfl) (by decide) rfl) (ls_room (Nat.le_of_ble_eq_true rfl) (by omega) (by omega)) ?_ (sf_S_nil) fun r414 hp413 thp413 Hhp413 fhp413 ahp413 php413 => ?_
  · intro q k h
    match q, h with
    | 0, h => cases h; exact bs_jR (bs_R.uq Hhp409 (g := 11) rfl)
    | q + 1, h => cases h
  obtain ⟨z415, rfl⟩ := bs_anI ahp413
  have E416 := lw_keep Hhp409 fhp413 rfl rfl E412
  refine (show Ev _ 1149 ([some (.retAddr 0), some (.ref 0), some (.ref 69), some (.ref 87), some (.int z), a5, a6], [.int z415], (m + 0 + 0, k + 0 + 0), hp413) _ from ?_)
  refine Ev.step (j := 1150) (s' := ([some (.retAddr 0), some (.ref 0), some (.ref 69), some (.ref 87), some (.int z), a5, a6], [], (m + 0 + 0, k + 0 + 0), hp413)) rfl rfl ?_
  refine Ev.step (j := 1440) (s' := ([some (.retAddr 0), some (.ref 0), some (.ref 69), some (.ref 87), some (.int z), a5, a6], [], (m + 0 + 0, k + 0 + 0), hp413)) rfl rfl ?_
  exact K _ _ _ _ _ _ Hhp413 E416 (by omega) (by omega)
set_option maxRecDepth 100000 in
set_option maxHeartbeats 4000000 in
theorem op_rats {xs : Nat → Int32} {n : Nat} {z : Int32} {a5 a6 : Option Value} {m k : Nat} {hp : ab_H} {t : Nat → Nat} {Q : ab_O → Prop} (H : sf_h t hp) (hs : lw_eq hp) (hz0 : 0 ≤ z.toInt) (hz1 : z.toInt + 6 ≤ n) (hn : n ≤ 3072) (hm : m + 21 ≤ 601024) (hk : k + 410 ≤ 7293034) (K : lw_K xs n z m k Q) : Ev (LT xs n) 1153 ([some (.retAddr 0), some (.ref 0), some (.ref 69), some (.ref 87), some (.int z), a5, a6], [], (m, k), hp) Q := by
  refine Ev.step (j := 1154) (s' := ([some (.retAddr 0), some (.ref 0), some (.ref 69), some (.ref 87), some (.int z), a5, a6], [.ref 0], (m, k), hp)) rfl rfl ?_
  refine bs_call (K := kq_X10_rats_4c18a7) [.ref 0] [] rfl ct_X10_rats_4c18a7 H rfl rfl rfl (bs_rcv (g := 10) H (bs_R.uq H (g := 10) rfl) (by decide) rfl) (ls_room (Nat.le_of_ble_eq_true rfl) (by omega) (by omega)) ?_ (sf_S_nil) fun r418 hp417 thp417 Hhp417 fhp417 ahp417 php417 => ?_
  · intro q k h
    match q, h with
    | 0, h => cases h; exact bs_jR (bs_R.uq H (g := 10) rfl)
    | q + 1, h => cases h
  obtain ⟨z419, rfl⟩ := bs_anI ahp417
  have E420 := lw_keep H fhp417 rfl rfl hs
  refine (show Ev _ 1157 ([some (.retAddr 0), some (.ref 0), some (.ref 69), some (.ref 87), some (.int z), a5, a6], [.int z419], (m + 0, k + 0), hp417) _ from ?_)
  refine Ev.step (j := 1158) (s' := ([some (.retAddr 0), some (.ref 0), some (.ref 69), some (.ref 87), some (.int z), a5, a6], [], (m + 0, k + 0), hp417)) rfl rfl ?_
  refine Ev.step (j := 1159) (s' := ([some (.retAddr 0), some (.ref 0), some (.ref 69), some (.ref 87), some (.int z), a5, a6], [.ref 69], (m + 0, k + 0), hp417)) rfl rfl ?_
  refine bs_call (K := kq_X11_rats_6afe8b) [.ref 69] [] rfl ct_X11_rats_6afe8b Hhp417 rfl rfl rfl (bs_rcv (g := 11) Hhp417 (bs_R.uq Hhp417 (g := 11) rfl) (by decide) rfl) (ls_room (Nat.le_of_ble_eq_true rfl) (by omega) (by omega)) ?_ (sf_S_nil) fun r422 hp421 thp421 Hhp421 fhp421 ahp421 php421 => ?_
  · intro q k h
    match q, h with
    | 0, h => cases h; exact bs_jR (bs_R.uq Hhp417 (g := 11) rfl)
    | q + 1, h => cases h
  obtain ⟨z423, rfl⟩ := bs_anI ahp421
  have E424 := lw_keep Hhp417 fhp421 rfl rfl E420
  refine (show Ev _ 1162 ([some (.retAddr 0), some (.ref 0), some (.ref 69), some (.ref 87), some (.int z), a5, a6], [.int z423], (m + 0 + 0, k + 0 + 0), hp421) _ from ?_)
  refine Ev.step (j := 1163) (s' := ([some (.retAddr 0), some (.ref 0), some (.ref 69), some (.ref 87), some (.int z), a5, a6], [], (m + 0 + 0, k + 0 + 0), hp421)) rfl rfl ?_
  refine Ev.step (j := 1440) (s' := ([some (.retAddr 0), some (.ref 0), some (.ref 69), some (.ref 87), some (.int z), a5, a6], [], (m + 0 + 0, k + 0 + 0), hp421)) rfl rfl ?_
  exact K _ _ _ _ _ _ Hhp421 E424 (by omega) (by omega)
set_option maxRecDepth 100000 in
set_option maxHeartbeats 4000000 in
theorem op_hoarded {xs : Nat → Int32} {n : Nat} {z : Int32} {a5 a6 : Option Value} {m k : Nat} {hp : ab_H} {t : Nat → Nat} {Q : ab_O → Prop} (H : sf_h t hp) (hs : lw_eq hp) (hz0 : 0 ≤ z.toInt) (hz1 : z.toInt + 6 ≤ n) (hn : n ≤ 3072) (hm : m + 21 ≤ 601024) (hk : k + 410 ≤ 7293034) (K : lw_K xs n z m k Q) : Ev (LT xs n) 1166 ([some (.retAddr 0), some (.ref 0), some (.ref 69), some (.ref 87), some (.int z), a5, a6], [], (m, k), hp) Q := by
  refine Ev.step (j := 1167) (s' := ([some (.retAddr 0), some (.ref 0), some (.ref 69), some (.ref 87), some (.int z), a5, a6], [.ref 0], (m, k), hp)) rfl rfl ?_
  refine Ev.step (j := 1168) (s' := ([some (.retAddr 0), some (.ref 0), some (.ref 69), some (.ref 87), some (.int z), a5, a6], [.retAddr 0, .ref 0], (m, k), hp)) rfl rfl ?_
  refine Ev.step (j := 1170) (s' := ([some (.retAddr 0), some (.ref 0), some (.ref 69), some (.ref 87), some (.int z), a5, a6], [.int z, .retAddr 0, .ref 0], (m, k), hp)) rfl rfl ?_
  refine bs_lit (k := 1) rfl rfl fun z425 hz425 => ?_
  refine bs_add rfl (by omega) (by omega) fun z426 hz426 => ?_
  refine ls_sld rfl (by omega) (by omega) ?_
  refine (show Ev _ 1173 ([some (.retAddr 0), some (.ref 0), some (.ref 69), some (.ref 87), some (.int z), a5, a6], [.int (xs z426.toNatClampNeg), .ref 0], (m, k), hp) _ from ?_)
  refine bs_call (K := kq_X10_hoarded_0df2a5) [.ref 0, .int (xs z426.toNatClampNeg)] [] rfl ct_X10_hoarded_0df2a5 H rfl rfl rfl (bs_rcv (g := 10) H (bs_R.uq H (g := 10) rfl) (by decide) rfl) (ls_room (Nat.le_of_ble_eq_true rfl) (by omega) (by omega)) ?_ (sf_S_nil) fun r428 hp427 thp427 Hhp427 fhp427 ahp427 php427 => ?_
  · intro q k h
    match q, h with
    | 0, h => cases h; exact bs_jR (bs_R.uq H (g := 10) rfl)
    | 1, h => cases h; exact sf_j0
    | q + 2, h => cases h
  obtain ⟨z429, rfl⟩ := bs_anI ahp427
  have E430 := lw_keep H fhp427 rfl rfl hs
  refine (show Ev _ 1176 ([some (.retAddr 0), some (.ref 0), some (.ref 69), some (.ref 87), some (.int z), a5, a6], [.int z429], (m + 0, k + 0), hp427) _ from ?_)
  refine Ev.step (j := 1177) (s' := ([some (.retAddr 0), some (.ref 0), some (.ref 69), some (.ref 87), some (.int z), a5, a6], [], (m + 0, k + 0), hp427)) rfl rfl ?_
  refine Ev.step (j := 1178) (s' := ([some (.retAddr 0), some (.ref 0), some (.ref 69), some (.ref 87), some (.int z), a5, a6], [.ref 69], (m + 0, k + 0), hp427)) rfl rfl ?_
  refine Ev.step (j := 1179) (s' := ([some (.retAddr 0), some (.ref 0), some (.ref 69), some (.ref 87), some (.int z), a5, a6], [.retAddr 0, .ref 69], (m + 0, k + 0), hp427)) rfl rfl ?_
  refine Ev.step (j := 1181) (s' := ([some (.retAddr 0), some (.ref 0), some (.ref 69), some (.ref 87), some (.int z), a5, a6], [.int z, .retAddr 0, .ref 69], (m + 0, k + 0), hp427)) rfl rfl ?_
  refine bs_lit (k := 1) rfl rfl fun z431 hz431 => ?_
  refine bs_add rfl (by omega) (by omega) fun z432 hz432 => ?_
  refine ls_sld rfl (by omega) (by omega) ?_
  refine (show Ev _ 1184 ([some (.retAddr 0), some (.ref 0), some (.ref 69), some (.ref 87), some (.int z), a5, a6], [.int (xs z432.toNatClampNeg), .ref 69], (m + 0, k + 0), hp427) _ from ?_)
  refine bs_call (K := kq_X11_hoarded_3d45d6) [.ref 69, .int (xs z432.toNatClampNeg)] [] rfl ct_X11_hoarded_3d45d6 Hhp427 rfl rfl rfl (bs_rcv (g := 11) Hhp427 (bs_R.uq Hhp427 (g := 11) rfl) (by decide) rfl) (ls_room (Nat.le_of_ble_eq_true rfl) (by omega) (by omega)) ?_ (sf_S_nil) fun r434 hp433 thp433 Hhp433 fhp433 ahp433 php433 => ?_
  · intro q k h
    match q, h with
    | 0, h => cases h; exact bs_jR (bs_R.uq Hhp427 (g := 11) rfl)
    | 1, h => cases h; exact sf_j0
    | q + 2, h => cases h
  obtain ⟨z435, rfl⟩ := bs_anI ahp433
  have E436 := lw_keep Hhp427 fhp433 rfl rfl E430
  refine (show Ev _ 1187 ([some (.retAddr 0), some (.ref 0), some (.ref 69), some (.ref 87), some (.int z), a5, a6], [.int z435], (m + 0 + 0, k + 0 + 0), hp433) _ from ?_)
  refine Ev.step (j := 1188) (s' := ([some (.retAddr 0), some (.ref 0), some (.ref 69), some (.ref 87), some (.int z), a5, a6], [], (m + 0 + 0, k + 0 + 0), hp433)) rfl rfl ?_
  refine Ev.step (j := 1440) (s' := ([some (.retAddr 0), some (.ref 0), some (.ref 69), some (.ref 87), some (.int z), a5, a6], [], (m + 0 + 0, k + 0 + 0), hp433)) rfl rfl ?_
  exact K _ _ _ _ _ _ Hhp433 E436 (by omega) (by omega)
set_option maxRecDepth 100000 in
set_option maxHeartbeats 4000000 in
theorem op_drawn {xs : Nat → Int32} {n : Nat} {z : Int32} {a5 a6 : Option Value} {m k : Nat} {hp : ab_H} {t : Nat → Nat} {Q : ab_O → Prop} (H : sf_h t hp) (hs : lw_eq hp) (hz0 : 0 ≤ z.toInt) (hz1 : z.toInt + 6 ≤ n) (hn : n ≤ 3072) (hm : m + 21 ≤ 601024) (hk : k + 410 ≤ 7293034) (K : lw_K xs n z m k Q) : Ev (LT xs n) 1191 ([some (.retAddr 0), some (.ref 0), some (.ref 69), some (.ref 87), some (.int z), a5, a6], [], (m, k), hp) Q := by
  refine Ev.step (j := 1192) (s' := ([some (.retAddr 0), some (.ref 0), some (.ref 69), some (.ref 87), some (.int z), a5, a6], [.ref 0], (m, k), hp)) rfl rfl ?_
  refine Ev.step (j := 1193) (s' := ([some (.retAddr 0), some (.ref 0), some (.ref 69), some (.ref 87), some (.int z), a5, a6], [.retAddr 0, .ref 0], (m, k), hp)) rfl rfl ?_
  refine Ev.step (j := 1195) (s' := ([some (.retAddr 0), some (.ref 0), some (.ref 69), some (.ref 87), some (.int z), a5, a6], [.int z, .retAddr 0, .ref 0], (m, k), hp)) rfl rfl ?_
  refine bs_lit (k := 1) rfl rfl fun z437 hz437 => ?_
  refine bs_add rfl (by omega) (by omega) fun z438 hz438 => ?_
  refine ls_sld rfl (by omega) (by omega) ?_
  refine (show Ev _ 1198 ([some (.retAddr 0), some (.ref 0), some (.ref 69), some (.ref 87), some (.int z), a5, a6], [.int (xs z438.toNatClampNeg), .ref 0], (m, k), hp) _ from ?_)
  refine Ev.step (j := 1199) (s' := ([some (.retAddr 0), some (.ref 0), some (.ref 69), some (.ref 87), some (.int z), a5, a6], [.retAddr 0, .int (xs z438.toNatClampNeg), .ref 0], (m, k), hp)) rfl rfl ?_
  refine Ev.step (j := 1201) (s' := ([some (.retAddr 0), some (.ref 0), some (.ref 69), some (.ref 87), some (.int z), a5, a6], [.int z, .retAddr 0, .int (xs z438.toNatClampNeg), .ref 0], (m, k), hp)) rfl rfl ?_
  refine bs_lit (k := 2) rfl rfl fun z439 hz439 => ?_
  refine bs_add rfl (by omega) (by omega) fun z440 hz440 => ?_
  refine ls_sld rfl (by omega) (by omega) ?_
  refine (show Ev _ 1204 ([some (.retAddr 0), some (.ref 0), some (.ref 69), some (.ref 87), some (.int z), a5, a6], [.int (xs z440.toNatClampNeg), .int (xs z438.toNatClampNeg), .ref 0], (m, k), hp) _ from ?_)
  refine bs_call (K := kq_X10_drawn_57b5ea) [.ref 0, .int (xs z438.toNatClampNeg), .int (xs z440.toNatClampNeg)] [] rfl ct_X10_drawn_57b5ea H rfl rfl rfl (bs_rcv (g := 10) H (bs_R.uq H (g := 10) rfl) (by decide) rfl) (ls_room (Nat.le_of_ble_eq_true rfl) (by omega) (by omega)) ?_ (sf_S_nil) fun r442 hp441 thp441 Hhp441 fhp441 ahp441 php441 => ?_
  · intro q k h
    match q, h with
    | 0, h => cases h; exact bs_jR (bs_R.uq H (g := 10) rfl)
    | 1, h => cases h; exact sf_j0
    | 2, h => cases h; exact sf_j0
    | q + 3, h => cases h
  obtain ⟨z443, rfl⟩ := bs_anI ahp441
  have E444 := lw_keep H fhp441 rfl rfl hs
  refine (show Ev _ 1207 ([some (.retAddr 0), some (.ref 0), some (.ref 69), some (.ref 87), some (.int z), a5, a6], [.int z443], (m + 8, k + 138), hp441) _ from ?_)
  refine Ev.step (j := 1208) (s' := ([some (.retAddr 0), some (.ref 0), some (.ref 69), some (.ref 87), some (.int z), a5, a6], [], (m + 8, k + 138), hp441)) rfl rfl ?_
  refine Ev.step (j := 1209) (s' := ([some (.retAddr 0), some (.ref 0), some (.ref 69), some (.ref 87), some (.int z), a5, a6], [.ref 69], (m + 8, k + 138), hp441)) rfl rfl ?_
  refine Ev.step (j := 1210) (s' := ([some (.retAddr 0), some (.ref 0), some (.ref 69), some (.ref 87), some (.int z), a5, a6], [.retAddr 0, .ref 69], (m + 8, k + 138), hp441)) rfl rfl ?_
  refine Ev.step (j := 1212) (s' := ([some (.retAddr 0), some (.ref 0), some (.ref 69), some (.ref 87), some (.int z), a5, a6], [.int z, .retAddr 0, .ref 69], (m + 8, k + 138), hp441)) rfl rfl ?_
  refine bs_lit (k := 1) rfl rfl fun z445 hz445 => ?_
  refine bs_add rfl (by omega) (by omega) fun z446 hz446 => ?_
  refine ls_sld rfl (by omega) (by omega) ?_
  refine (show Ev _ 1215 ([some (.retAddr 0), some (.ref 0), some (.ref 69), some (.ref 87), some (.int z), a5, a6], [.int (xs z446.toNatClampNeg), .ref 69], (m + 8, k + 138), hp441) _ from ?_)
  refine Ev.step (j := 1216) (s' := ([some (.retAddr 0), some (.ref 0), some (.ref 69), some (.ref 87), some (.int z), a5, a6], [.retAddr 0, .int (xs z446.toNatClampNeg), .ref 69], (m + 8, k + 138), hp441)) rfl rfl ?_
  refine Ev.step (j := 1218) (s' := ([some (.retAddr 0), some (.ref 0), some (.ref 69), some (.ref 87), some (.int z), a5, a6], [.int z, .retAddr 0, .int (xs z446.toNatClampNeg), .ref 69], (m + 8, k + 138), hp441)) rfl rfl ?_
  refine bs_lit (k := 2) rfl rfl fun z447 hz447 => ?_
  refine bs_add rfl (by omega) (by omega) fun z448 hz448 => ?_
  refine ls_sld rfl (by omega) (by omega) ?_
  refine (show Ev _ 1221 ([some (.retAddr 0), some (.ref 0), some (.ref 69), some (.ref 87), some (.int z), a5, a6], [.int (xs z448.toNatClampNeg), .int (xs z446.toNatClampNeg), .ref 69], (m + 8, k + 138), hp441) _ from ?_)
  refine bs_call (K := kq_X11_drawn_334faa) [.ref 69, .int (xs z446.toNatClampNeg), .int (xs z448.toNatClampNeg)] [] rfl ct_X11_drawn_334faa Hhp441 rfl rfl rfl (bs_rcv (g := 11) Hhp441 (bs_R.uq Hhp441 (g := 11) rfl) (by decide) rfl) (ls_room (Nat.le_of_ble_eq_true rfl) (by omega) (by omega)) ?_ (sf_S_nil) fun r450 hp449 thp449 Hhp449 fhp449 ahp449 php449 => ?_
  · intro q k h
    match q, h with
    | 0, h => cases h; exact bs_jR (bs_R.uq Hhp441 (g := 11) rfl)
    | 1, h => cases h; exact sf_j0
    | 2, h => cases h; exact sf_j0
    | q + 3, h => cases h
  obtain ⟨z451, rfl⟩ := bs_anI ahp449
  have E452 := lw_keep Hhp441 fhp449 rfl rfl E444
  refine (show Ev _ 1224 ([some (.retAddr 0), some (.ref 0), some (.ref 69), some (.ref 87), some (.int z), a5, a6], [.int z451], (m + 8 + 0, k + 138 + 0), hp449) _ from ?_)
  refine Ev.step (j := 1225) (s' := ([some (.retAddr 0), some (.ref 0), some (.ref 69), some (.ref 87), some (.int z), a5, a6], [], (m + 8 + 0, k + 138 + 0), hp449)) rfl rfl ?_
  refine Ev.step (j := 1440) (s' := ([some (.retAddr 0), some (.ref 0), some (.ref 69), some (.ref 87), some (.int z), a5, a6], [], (m + 8 + 0, k + 138 + 0), hp449)) rfl rfl ?_
  exact K _ _ _ _ _ _ Hhp449 E452 (by omega) (by omega)
set_option maxRecDepth 100000 in
set_option maxHeartbeats 4000000 in
theorem op_odds {xs : Nat → Int32} {n : Nat} {z : Int32} {a5 a6 : Option Value} {m k : Nat} {hp : ab_H} {t : Nat → Nat} {Q : ab_O → Prop} (H : sf_h t hp) (hs : lw_eq hp) (hz0 : 0 ≤ z.toInt) (hz1 : z.toInt + 6 ≤ n) (hn : n ≤ 3072) (hm : m + 21 ≤ 601024) (hk : k + 410 ≤ 7293034) (K : lw_K xs n z m k Q) : Ev (LT xs n) 1228 ([some (.retAddr 0), some (.ref 0), some (.ref 69), some (.ref 87), some (.int z), a5, a6], [], (m, k), hp) Q := by
  refine Ev.step (j := 1229) (s' := ([some (.retAddr 0), some (.ref 0), some (.ref 69), some (.ref 87), some (.int z), a5, a6], [.ref 0], (m, k), hp)) rfl rfl ?_
  refine Ev.step (j := 1230) (s' := ([some (.retAddr 0), some (.ref 0), some (.ref 69), some (.ref 87), some (.int z), a5, a6], [.retAddr 0, .ref 0], (m, k), hp)) rfl rfl ?_
  refine Ev.step (j := 1232) (s' := ([some (.retAddr 0), some (.ref 0), some (.ref 69), some (.ref 87), some (.int z), a5, a6], [.int z, .retAddr 0, .ref 0], (m, k), hp)) rfl rfl ?_
  refine bs_lit (k := 1) rfl rfl fun z453 hz453 => ?_
  refine bs_add rfl (by omega) (by omega) fun z454 hz454 => ?_
  refine ls_sld rfl (by omega) (by omega) ?_
  refine (show Ev _ 1235 ([some (.retAddr 0), some (.ref 0), some (.ref 69), some (.ref 87), some (.int z), a5, a6], [.int (xs z454.toNatClampNeg), .ref 0], (m, k), hp) _ from ?_)
  refine Ev.step (j := 1236) (s' := ([some (.retAddr 0), some (.ref 0), some (.ref 69), some (.ref 87), some (.int z), a5, a6], [.retAddr 0, .int (xs z454.toNatClampNeg), .ref 0], (m, k), hp)) rfl rfl ?_
  refine Ev.step (j := 1238) (s' := ([some (.retAddr 0), some (.ref 0), some (.ref 69), some (.ref 87), some (.int z), a5, a6], [.int z, .retAddr 0, .int (xs z454.toNatClampNeg), .ref 0], (m, k), hp)) rfl rfl ?_
  refine bs_lit (k := 2) rfl rfl fun z455 hz455 => ?_
  refine bs_add rfl (by omega) (by omega) fun z456 hz456 => ?_
  refine ls_sld rfl (by omega) (by omega) ?_
  refine (show Ev _ 1241 ([some (.retAddr 0), some (.ref 0), some (.ref 69), some (.ref 87), some (.int z), a5, a6], [.int (xs z456.toNatClampNeg), .int (xs z454.toNatClampNeg), .ref 0], (m, k), hp) _ from ?_)
  refine Ev.step (j := 1242) (s' := ([some (.retAddr 0), some (.ref 0), some (.ref 69), some (.ref 87), some (.int z), a5, a6], [.retAddr 0, .int (xs z456.toNatClampNeg), .int (xs z454.toNatClampNeg), .ref 0], (m, k), hp)) rfl rfl ?_
  refine Ev.step (j := 1244) (s' := ([some (.retAddr 0), some (.ref 0), some (.ref 69), some (.ref 87), some (.int z), a5, a6], [.int z, .retAddr 0, .int (xs z456.toNatClampNeg), .int (xs z454.toNatClampNeg), .ref 0], (m, k), hp)) rfl rfl ?_
  refine bs_lit (k := 3) rfl rfl fun z457 hz457 => ?_
  refine bs_add rfl (by omega) (by omega) fun z458 hz458 => ?_
  refine ls_sld rfl (by omega) (by omega) ?_
  refine (show Ev _ 1247 ([some (.retAddr 0), some (.ref 0), some (.ref 69), some (.ref 87), some (.int z), a5, a6], [.int (xs z458.toNatClampNeg), .int (xs z456.toNatClampNeg), .int (xs z454.toNatClampNeg), .ref 0], (m, k), hp) _ from ?_)
  refine bs_call (K := kq_X10_odds_7e6f69) [.ref 0, .int (xs z454.toNatClampNeg), .int (xs z456.toNatClampNeg), .int (xs z458.toNatClampNeg)] [] rfl ct_X10_odds_7e6f69 H rfl rfl rfl (bs_rcv (g := 10) H (bs_R.uq H (g := 10) rfl) (by decide) rfl) (ls_room (Nat.le_of_ble_eq_true rfl) (by omega) (by omega)) ?_ (sf_S_nil) fun r460 hp459 thp459 Hhp459 fhp459 ahp459 php459 => ?_
  · intro q k h
    match q, h with
    | 0, h => cases h; exact bs_jR (bs_R.uq H (g := 10) rfl)
    | 1, h => cases h; exact sf_j0
    | 2, h => cases h; exact sf_j0
    | 3, h => cases h; exact sf_j0
    | q + 4, h => cases h
  obtain ⟨z461, rfl⟩ := bs_anI ahp459
  have E462 := lw_keep H fhp459 rfl rfl hs
  refine (show Ev _ 1250 ([some (.retAddr 0), some (.ref 0), some (.ref 69), some (.ref 87), some (.int z), a5, a6], [.int z461], (m + 0, k + 0), hp459) _ from ?_)
  refine Ev.step (j := 1251) (s' := ([some (.retAddr 0), some (.ref 0), some (.ref 69), some (.ref 87), some (.int z), a5, a6], [], (m + 0, k + 0), hp459)) rfl rfl ?_
  refine Ev.step (j := 1252) (s' := ([some (.retAddr 0), some (.ref 0), some (.ref 69), some (.ref 87), some (.int z), a5, a6], [.ref 69], (m + 0, k + 0), hp459)) rfl rfl ?_
  refine Ev.step (j := 1253) (s' := ([some (.retAddr 0), some (.ref 0), some (.ref 69), some (.ref 87), some (.int z), a5, a6], [.retAddr 0, .ref 69], (m + 0, k + 0), hp459)) rfl rfl ?_
  refine Ev.step (j := 1255) (s' := ([some (.retAddr 0), some (.ref 0), some (.ref 69), some (.ref 87), some (.int z), a5, a6], [.int z, .retAddr 0, .ref 69], (m + 0, k + 0), hp459)) rfl rfl ?_
  refine bs_lit (k := 1) rfl rfl fun z463 hz463 => ?_
  refine bs_add rfl (by omega) (by omega) fun z464 hz464 => ?_
  refine ls_sld rfl (by omega) (by omega) ?_
  refine (show Ev _ 1258 ([some (.retAddr 0), some (.ref 0), some (.ref 69), some (.ref 87), some (.int z), a5, a6], [.int (xs z464.toNatClampNeg), .ref 69], (m + 0, k + 0), hp459) _ from ?_)
  refine Ev.step (j := 1259) (s' := ([some (.retAddr 0), some (.ref 0), some (.ref 69), some (.ref 87), some (.int z), a5, a6], [.retAddr 0, .int (xs z464.toNatClampNeg), .ref 69], (m + 0, k + 0), hp459)) rfl rfl ?_
  refine Ev.step (j := 1261) (s' := ([some (.retAddr 0), some (.ref 0), some (.ref 69), some (.ref 87), some (.int z), a5, a6], [.int z, .retAddr 0, .int (xs z464.toNatClampNeg), .ref 69], (m + 0, k + 0), hp459)) rfl rfl ?_
  refine bs_lit (k := 2) rfl rfl fun z465 hz465 => ?_
  refine bs_add rfl (by omega) (by omega) fun z466 hz466 => ?_
  refine ls_sld rfl (by omega) (by omega) ?_
  refine (show Ev _ 1264 ([some (.retAddr 0), some (.ref 0), some (.ref 69), some (.ref 87), some (.int z), a5, a6], [.int (xs z466.toNatClampNeg), .int (xs z464.toNatClampNeg), .ref 69], (m + 0, k + 0), hp459) _ from ?_)
  refine Ev.step (j := 1265) (s' := ([some (.retAddr 0), some (.ref 0), some (.ref 69), some (.ref 87), some (.int z), a5, a6], [.retAddr 0, .int (xs z466.toNatClampNeg), .int (xs z464.toNatClampNeg), .ref 69], (m + 0, k + 0), hp459)) rfl rfl ?_
  refine Ev.step (j := 1267) (s' := ([some (.retAddr 0), some (.ref 0), some (.ref 69), some (.ref 87), some (.int z), a5, a6], [.int z, .retAddr 0, .int (xs z466.toNatClampNeg), .int (xs z464.toNatClampNeg), .ref 69], (m + 0, k + 0), hp459)) rfl rfl ?_
  refine bs_lit (k := 3) rfl rfl fun z467 hz467 => ?_
  refine bs_add rfl (by omega) (by omega) fun z468 hz468 => ?_
  refine ls_sld rfl (by omega) (by omega) ?_
  refine (show Ev _ 1270 ([some (.retAddr 0), some (.ref 0), some (.ref 69), some (.ref 87), some (.int z), a5, a6], [.int (xs z468.toNatClampNeg), .int (xs z466.toNatClampNeg), .int (xs z464.toNatClampNeg), .ref 69], (m + 0, k + 0), hp459) _ from ?_)
  refine bs_call (K := kq_X11_odds_3518ea) [.ref 69, .int (xs z464.toNatClampNeg), .int (xs z466.toNatClampNeg), .int (xs z468.toNatClampNeg)] [] rfl ct_X11_odds_3518ea Hhp459 rfl rfl rfl (bs_rcv (g := 11) Hhp459 (bs_R.uq Hhp459 (g := 11) rfl) (by decide) rfl) (ls_room (Nat.le_of_ble_eq_true rfl) (by omega) (by omega)) ?_ (sf_S_nil) fun r470 hp469 thp469 Hhp469 fhp469 ahp469 php469 => ?_
  · intro q k h
    match q, h with
    | 0, h => cases h; exact bs_jR (bs_R.uq Hhp459 (g := 11) rfl)
    | 1, h => cases h; exact sf_j0
    | 2, h => cases h; exact sf_j0
    | 3, h => cases h; exact sf_j0
    | q + 4, h => cases h
  obtain ⟨z471, rfl⟩ := bs_anI ahp469
  have E472 := lw_keep Hhp459 fhp469 rfl rfl E462
  refine (show Ev _ 1273 ([some (.retAddr 0), some (.ref 0), some (.ref 69), some (.ref 87), some (.int z), a5, a6], [.int z471], (m + 0 + 0, k + 0 + 0), hp469) _ from ?_)
  refine Ev.step (j := 1274) (s' := ([some (.retAddr 0), some (.ref 0), some (.ref 69), some (.ref 87), some (.int z), a5, a6], [], (m + 0 + 0, k + 0 + 0), hp469)) rfl rfl ?_
  refine Ev.step (j := 1440) (s' := ([some (.retAddr 0), some (.ref 0), some (.ref 69), some (.ref 87), some (.int z), a5, a6], [], (m + 0 + 0, k + 0 + 0), hp469)) rfl rfl ?_
  exact K _ _ _ _ _ _ Hhp469 E472 (by omega) (by omega)
set_option maxRecDepth 100000 in
set_option maxHeartbeats 4000000 in
theorem op_log_a {xs : Nat → Int32} {n : Nat} {z : Int32} {a5 a6 : Option Value} {m k : Nat} {hp : ab_H} {t : Nat → Nat} {Q : ab_O → Prop} (H : sf_h t hp) (hs : lw_eq hp) (hz0 : 0 ≤ z.toInt) (hz1 : z.toInt + 6 ≤ n) (hn : n ≤ 3072) (hm : m + 21 ≤ 601024) (hk : k + 410 ≤ 7293034) (h1 : ∀ y : Int32, y.toInt = z.toInt + 1 → 0 ≤ (xs y.toNatClampNeg).toInt ∧ (xs y.toNatClampNeg).toInt ≤ 1) (K : lw_K xs n z m k Q) : Ev (LT xs n) 1277 ([some (.retAddr 0), some (.ref 0), some (.ref 69), some (.ref 87), some (.int z), a5, a6], [], (m, k), hp) Q := by
  refine Ev.step (j := 1278) (s' := ([some (.retAddr 0), some (.ref 0), some (.ref 69), some (.ref 87), some (.int z), a5, a6], [.ref 0], (m, k), hp)) rfl rfl ?_
  refine Ev.step (j := 1279) (s' := ([some (.retAddr 0), some (.ref 0), some (.ref 69), some (.ref 87), some (.int z), a5, a6], [.retAddr 0, .ref 0], (m, k), hp)) rfl rfl ?_
  refine Ev.step (j := 1281) (s' := ([some (.retAddr 0), some (.ref 0), some (.ref 69), some (.ref 87), some (.int z), a5, a6], [.int z, .retAddr 0, .ref 0], (m, k), hp)) rfl rfl ?_
  refine bs_lit (k := 1) rfl rfl fun z473 hz473 => ?_
  refine bs_add rfl (by omega) (by omega) fun z474 hz474 => ?_
  refine ls_sld rfl (by omega) (by omega) ?_
  have gz474 := h1 z474 (by omega)
  have ggz474 := n_range (xs z474.toNatClampNeg)
  refine (show Ev _ 1284 ([some (.retAddr 0), some (.ref 0), some (.ref 69), some (.ref 87), some (.int z), a5, a6], [.int (xs z474.toNatClampNeg), .ref 0], (m, k), hp) _ from ?_)
  refine bs_call (K := kq_X10_log_6a20bc) [.ref 0, .int (xs z474.toNatClampNeg)] [] rfl ct_X10_log_6a20bc H rfl rfl rfl (bs_rcv (g := 10) H (bs_R.uq H (g := 10) rfl) (by decide) rfl) (ls_room (Nat.le_of_ble_eq_true rfl) (by omega) (by omega)) ?_ (sf_S_cons (sf_s1 (x := ((xs z474.toNatClampNeg)).toInt) rfl (by omega) (by omega)) (sf_S_nil)) fun r476 hp475 thp475 Hhp475 fhp475 ahp475 php475 => ?_
  · intro q k h
    match q, h with
    | 0, h => cases h; exact bs_jR (bs_R.uq H (g := 10) rfl)
    | 1, h => cases h; exact sf_j0
    | q + 2, h => cases h
  obtain ⟨z477, rfl⟩ := bs_anI ahp475
  obtain ⟨y478, ey478, uy478, wy478⟩ := (php475 _ (List.mem_of_getElem? (i := 0) rfl)).1 rfl
  replace ey478 : sf_rd hp475 1 1 = some y478 := ey478
  replace uy478 : (0 : Int) ≤ y478 := uy478
  replace wy478 : y478 ≤ (0 : Int) := wy478
  refine (show Ev _ 1287 ([some (.retAddr 0), some (.ref 0), some (.ref 69), some (.ref 87), some (.int z), a5, a6], [.int z477], (m + 8, k + 138), hp475) _ from ?_)
  refine Ev.step (j := 1288) (s' := ([some (.retAddr 0), some (.ref 0), some (.ref 69), some (.ref 87), some (.int z), a5, a6], [], (m + 8, k + 138), hp475)) rfl rfl ?_
  refine Ev.step (j := 1289) (s' := ([some (.retAddr 0), some (.ref 0), some (.ref 69), some (.ref 87), some (.int z), a5, a6], [.ref 69], (m + 8, k + 138), hp475)) rfl rfl ?_
  refine Ev.step (j := 1290) (s' := ([some (.retAddr 0), some (.ref 0), some (.ref 69), some (.ref 87), some (.int z), a5, a6], [.retAddr 0, .ref 69], (m + 8, k + 138), hp475)) rfl rfl ?_
  refine Ev.step (j := 1292) (s' := ([some (.retAddr 0), some (.ref 0), some (.ref 69), some (.ref 87), some (.int z), a5, a6], [.int z, .retAddr 0, .ref 69], (m + 8, k + 138), hp475)) rfl rfl ?_
  refine bs_lit (k := 1) rfl rfl fun z479 hz479 => ?_
  refine bs_add rfl (by omega) (by omega) fun z480 hz480 => ?_
  refine ls_sld rfl (by omega) (by omega) ?_
  have gz480 := h1 z480 (by omega)
  have ggz480 := n_range (xs z480.toNatClampNeg)
  refine (show Ev _ 1295 ([some (.retAddr 0), some (.ref 0), some (.ref 69), some (.ref 87), some (.int z), a5, a6], [.int (xs z480.toNatClampNeg), .ref 69], (m + 8, k + 138), hp475) _ from ?_)
  refine bs_call (K := kq_X11_log_h) [.ref 69, .int (xs z480.toNatClampNeg)] [] rfl ct_X11_log_h Hhp475 rfl rfl rfl (bs_rcv (g := 11) Hhp475 (bs_R.uq Hhp475 (g := 11) rfl) (by decide) rfl) (ls_room (Nat.le_of_ble_eq_true rfl) (by omega) (by omega)) ?_ (sf_S_cons (sf_s1 (x := ((xs z480.toNatClampNeg)).toInt) rfl (by omega) (by omega)) (sf_S_nil)) fun r482 hp481 thp481 Hhp481 fhp481 ahp481 php481 => ?_
  · intro q k h
    match q, h with
    | 0, h => cases h; exact bs_jR (bs_R.uq Hhp475 (g := 11) rfl)
    | 1, h => cases h; exact sf_j0
    | q + 2, h => cases h
  obtain ⟨z483, rfl⟩ := bs_anI ahp481
  obtain ⟨y484, ey484, uy484, wy484⟩ := (php481 _ (List.mem_of_getElem? (i := 0) rfl)).1 rfl
  replace ey484 : sf_rd hp481 69 2 = some y484 := ey484
  replace uy484 : (0 : Int) ≤ y484 := uy484
  replace wy484 : y484 ≤ (0 : Int) := wy484
  have hc2 := (fhp481.2.2.1 _ (bs_R.uq Hhp475 (g := 8) rfl).1 1 (by rw [(bs_R.uq Hhp475 (g := 8) (p := 1) rfl).2]; rfl)).trans ey478
  have E : lw_eq hp481 := ⟨0, hc2.trans (congrArg some (by omega)), ey484.trans (congrArg some (by omega))⟩
  refine (show Ev _ 1298 ([some (.retAddr 0), some (.ref 0), some (.ref 69), some (.ref 87), some (.int z), a5, a6], [.int z483], (m + 8 + 0, k + 138 + 0), hp481) _ from ?_)
  refine Ev.step (j := 1299) (s' := ([some (.retAddr 0), some (.ref 0), some (.ref 69), some (.ref 87), some (.int z), a5, a6], [], (m + 8 + 0, k + 138 + 0), hp481)) rfl rfl ?_
  refine Ev.step (j := 1440) (s' := ([some (.retAddr 0), some (.ref 0), some (.ref 69), some (.ref 87), some (.int z), a5, a6], [], (m + 8 + 0, k + 138 + 0), hp481)) rfl rfl ?_
  exact K _ _ _ _ _ _ Hhp481 E (by omega) (by omega)
set_option maxRecDepth 100000 in
set_option maxHeartbeats 4000000 in
theorem op_log_b {xs : Nat → Int32} {n : Nat} {z : Int32} {a5 a6 : Option Value} {m k : Nat} {hp : ab_H} {t : Nat → Nat} {Q : ab_O → Prop} (H : sf_h t hp) (hs : lw_eq hp) (hz0 : 0 ≤ z.toInt) (hz1 : z.toInt + 6 ≤ n) (hn : n ≤ 3072) (hm : m + 21 ≤ 601024) (hk : k + 410 ≤ 7293034) (h1 : ∀ y : Int32, y.toInt = z.toInt + 1 → (xs y.toNatClampNeg).toInt ≤ -1) (K : lw_K xs n z m k Q) : Ev (LT xs n) 1277 ([some (.retAddr 0), some (.ref 0), some (.ref 69), some (.ref 87), some (.int z), a5, a6], [], (m, k), hp) Q := by
  refine Ev.step (j := 1278) (s' := ([some (.retAddr 0), some (.ref 0), some (.ref 69), some (.ref 87), some (.int z), a5, a6], [.ref 0], (m, k), hp)) rfl rfl ?_
  refine Ev.step (j := 1279) (s' := ([some (.retAddr 0), some (.ref 0), some (.ref 69), some (.ref 87), some (.int z), a5, a6], [.retAddr 0, .ref 0], (m, k), hp)) rfl rfl ?_
  refine Ev.step (j := 1281) (s' := ([some (.retAddr 0), some (.ref 0), some (.ref 69), some (.ref 87), some (.int z), a5, a6], [.int z, .retAddr 0, .ref 0], (m, k), hp)) rfl rfl ?_
  refine bs_lit (k := 1) rfl rfl fun z485 hz485 => ?_
  refine bs_add rfl (by omega) (by omega) fun z486 hz486 => ?_
  refine ls_sld rfl (by omega) (by omega) ?_
  have gz486 := h1 z486 (by omega)
  have ggz486 := n_range (xs z486.toNatClampNeg)
  refine (show Ev _ 1284 ([some (.retAddr 0), some (.ref 0), some (.ref 69), some (.ref 87), some (.int z), a5, a6], [.int (xs z486.toNatClampNeg), .ref 0], (m, k), hp) _ from ?_)
  refine bs_call (K := kq_X10_log_77e69b) [.ref 0, .int (xs z486.toNatClampNeg)] [] rfl ct_X10_log_77e69b H rfl rfl rfl (bs_rcv (g := 10) H (bs_R.uq H (g := 10) rfl) (by decide) rfl) (ls_room (Nat.le_of_ble_eq_true rfl) (by omega) (by omega)) ?_ (sf_S_cons (sf_s1 (x := ((xs z486.toNatClampNeg)).toInt) rfl (by omega) (by omega)) (sf_S_nil)) fun r488 hp487 thp487 Hhp487 fhp487 ahp487 php487 => ?_
  · intro q k h
    match q, h with
    | 0, h => cases h; exact bs_jR (bs_R.uq H (g := 10) rfl)
    | 1, h => cases h; exact sf_j0
    | q + 2, h => cases h
  obtain ⟨z489, rfl⟩ := bs_anI ahp487
  have E490 := lw_keep H fhp487 rfl rfl hs
  refine (show Ev _ 1287 ([some (.retAddr 0), some (.ref 0), some (.ref 69), some (.ref 87), some (.int z), a5, a6], [.int z489], (m + 8, k + 138), hp487) _ from ?_)
  refine Ev.step (j := 1288) (s' := ([some (.retAddr 0), some (.ref 0), some (.ref 69), some (.ref 87), some (.int z), a5, a6], [], (m + 8, k + 138), hp487)) rfl rfl ?_
  refine Ev.step (j := 1289) (s' := ([some (.retAddr 0), some (.ref 0), some (.ref 69), some (.ref 87), some (.int z), a5, a6], [.ref 69], (m + 8, k + 138), hp487)) rfl rfl ?_
  refine Ev.step (j := 1290) (s' := ([some (.retAddr 0), some (.ref 0), some (.ref 69), some (.ref 87), some (.int z), a5, a6], [.retAddr 0, .ref 69], (m + 8, k + 138), hp487)) rfl rfl ?_
  refine Ev.step (j := 1292) (s' := ([some (.retAddr 0), some (.ref 0), some (.ref 69), some (.ref 87), some (.int z), a5, a6], [.int z, .retAddr 0, .ref 69], (m + 8, k + 138), hp487)) rfl rfl ?_
  refine bs_lit (k := 1) rfl rfl fun z491 hz491 => ?_
  refine bs_add rfl (by omega) (by omega) fun z492 hz492 => ?_
  refine ls_sld rfl (by omega) (by omega) ?_
  have gz492 := h1 z492 (by omega)
  have ggz492 := n_range (xs z492.toNatClampNeg)
  refine (show Ev _ 1295 ([some (.retAddr 0), some (.ref 0), some (.ref 69), some (.ref 87), some (.int z), a5, a6], [.int (xs z492.toNatClampNeg), .ref 69], (m + 8, k + 138), hp487) _ from ?_)
  refine bs_call (K := kq_X11_log_lo) [.ref 69, .int (xs z492.toNatClampNeg)] [] rfl ct_X11_log_lo Hhp487 rfl rfl rfl (bs_rcv (g := 11) Hhp487 (bs_R.uq Hhp487 (g := 11) rfl) (by decide) rfl) (ls_room (Nat.le_of_ble_eq_true rfl) (by omega) (by omega)) ?_ (sf_S_cons (sf_s1 (x := ((xs z492.toNatClampNeg)).toInt) rfl (by omega) (by omega)) (sf_S_nil)) fun r494 hp493 thp493 Hhp493 fhp493 ahp493 php493 => ?_
  · intro q k h
    match q, h with
    | 0, h => cases h; exact bs_jR (bs_R.uq Hhp487 (g := 11) rfl)
    | 1, h => cases h; exact sf_j0
    | q + 2, h => cases h
  obtain ⟨z495, rfl⟩ := bs_anI ahp493
  have E496 := lw_keep Hhp487 fhp493 rfl rfl E490
  refine (show Ev _ 1298 ([some (.retAddr 0), some (.ref 0), some (.ref 69), some (.ref 87), some (.int z), a5, a6], [.int z495], (m + 8 + 0, k + 138 + 0), hp493) _ from ?_)
  refine Ev.step (j := 1299) (s' := ([some (.retAddr 0), some (.ref 0), some (.ref 69), some (.ref 87), some (.int z), a5, a6], [], (m + 8 + 0, k + 138 + 0), hp493)) rfl rfl ?_
  refine Ev.step (j := 1440) (s' := ([some (.retAddr 0), some (.ref 0), some (.ref 69), some (.ref 87), some (.int z), a5, a6], [], (m + 8 + 0, k + 138 + 0), hp493)) rfl rfl ?_
  exact K _ _ _ _ _ _ Hhp493 E496 (by omega) (by omega)
set_option maxRecDepth 100000 in
set_option maxHeartbeats 4000000 in
theorem op_log_c {xs : Nat → Int32} {n : Nat} {z : Int32} {a5 a6 : Option Value} {m k : Nat} {hp : ab_H} {t : Nat → Nat} {Q : ab_O → Prop} (H : sf_h t hp) (hs : lw_eq hp) (hz0 : 0 ≤ z.toInt) (hz1 : z.toInt + 6 ≤ n) (hn : n ≤ 3072) (hm : m + 21 ≤ 601024) (hk : k + 410 ≤ 7293034) (h1 : ∀ y : Int32, y.toInt = z.toInt + 1 → 2 ≤ (xs y.toNatClampNeg).toInt) (K : lw_K xs n z m k Q) : Ev (LT xs n) 1277 ([some (.retAddr 0), some (.ref 0), some (.ref 69), some (.ref 87), some (.int z), a5, a6], [], (m, k), hp) Q := by
  refine Ev.step (j := 1278) (s' := ([some (.retAddr 0), some (.ref 0), some (.ref 69), some (.ref 87), some (.int z), a5, a6], [.ref 0], (m, k), hp)) rfl rfl ?_
  refine Ev.step (j := 1279) (s' := ([some (.retAddr 0), some (.ref 0), some (.ref 69), some (.ref 87), some (.int z), a5, a6], [.retAddr 0, .ref 0], (m, k), hp)) rfl rfl ?_
  refine Ev.step (j := 1281) (s' := ([some (.retAddr 0), some (.ref 0), some (.ref 69), some (.ref 87), some (.int z), a5, a6], [.int z, .retAddr 0, .ref 0], (m, k), hp)) rfl rfl ?_
  refine bs_lit (k := 1) rfl rfl fun z497 hz497 => ?_
  refine bs_add rfl (by omega) (by omega) fun z498 hz498 => ?_
  refine ls_sld rfl (by omega) (by omega) ?_
  have gz498 := h1 z498 (by omega)
  have ggz498 := n_range (xs z498.toNatClampNeg)
  refine (show Ev _ 1284 ([some (.retAddr 0), some (.ref 0), some (.ref 69), some (.ref 87), some (.int z), a5, a6], [.int (xs z498.toNatClampNeg), .ref 0], (m, k), hp) _ from ?_)
  refine bs_call (K := kq_X10_log_75923d) [.ref 0, .int (xs z498.toNatClampNeg)] [] rfl ct_X10_log_75923d H rfl rfl rfl (bs_rcv (g := 10) H (bs_R.uq H (g := 10) rfl) (by decide) rfl) (ls_room (Nat.le_of_ble_eq_true rfl) (by omega) (by omega)) ?_ (sf_S_cons (sf_s1 (x := ((xs z498.toNatClampNeg)).toInt) rfl (by omega) (by omega)) (sf_S_nil)) fun r500 hp499 thp499 Hhp499 fhp499 ahp499 php499 => ?_
  · intro q k h
    match q, h with
    | 0, h => cases h; exact bs_jR (bs_R.uq H (g := 10) rfl)
    | 1, h => cases h; exact sf_j0
    | q + 2, h => cases h
  obtain ⟨z501, rfl⟩ := bs_anI ahp499
  have E502 := lw_keep H fhp499 rfl rfl hs
  refine (show Ev _ 1287 ([some (.retAddr 0), some (.ref 0), some (.ref 69), some (.ref 87), some (.int z), a5, a6], [.int z501], (m + 8, k + 138), hp499) _ from ?_)
  refine Ev.step (j := 1288) (s' := ([some (.retAddr 0), some (.ref 0), some (.ref 69), some (.ref 87), some (.int z), a5, a6], [], (m + 8, k + 138), hp499)) rfl rfl ?_
  refine Ev.step (j := 1289) (s' := ([some (.retAddr 0), some (.ref 0), some (.ref 69), some (.ref 87), some (.int z), a5, a6], [.ref 69], (m + 8, k + 138), hp499)) rfl rfl ?_
  refine Ev.step (j := 1290) (s' := ([some (.retAddr 0), some (.ref 0), some (.ref 69), some (.ref 87), some (.int z), a5, a6], [.retAddr 0, .ref 69], (m + 8, k + 138), hp499)) rfl rfl ?_
  refine Ev.step (j := 1292) (s' := ([some (.retAddr 0), some (.ref 0), some (.ref 69), some (.ref 87), some (.int z), a5, a6], [.int z, .retAddr 0, .ref 69], (m + 8, k + 138), hp499)) rfl rfl ?_
  refine bs_lit (k := 1) rfl rfl fun z503 hz503 => ?_
  refine bs_add rfl (by omega) (by omega) fun z504 hz504 => ?_
  refine ls_sld rfl (by omega) (by omega) ?_
  have gz504 := h1 z504 (by omega)
  have ggz504 := n_range (xs z504.toNatClampNeg)
  refine (show Ev _ 1295 ([some (.retAddr 0), some (.ref 0), some (.ref 69), some (.ref 87), some (.int z), a5, a6], [.int (xs z504.toNatClampNeg), .ref 69], (m + 8, k + 138), hp499) _ from ?_)
  refine bs_call (K := kq_X11_log_hi) [.ref 69, .int (xs z504.toNatClampNeg)] [] rfl ct_X11_log_hi Hhp499 rfl rfl rfl (bs_rcv (g := 11) Hhp499 (bs_R.uq Hhp499 (g := 11) rfl) (by decide) rfl) (ls_room (Nat.le_of_ble_eq_true rfl) (by omega) (by omega)) ?_ (sf_S_cons (sf_s1 (x := ((xs z504.toNatClampNeg)).toInt) rfl (by omega) (by omega)) (sf_S_nil)) fun r506 hp505 thp505 Hhp505 fhp505 ahp505 php505 => ?_
  · intro q k h
    match q, h with
    | 0, h => cases h; exact bs_jR (bs_R.uq Hhp499 (g := 11) rfl)
    | 1, h => cases h; exact sf_j0
    | q + 2, h => cases h
  obtain ⟨z507, rfl⟩ := bs_anI ahp505
  have E508 := lw_keep Hhp499 fhp505 rfl rfl E502
  refine (show Ev _ 1298 ([some (.retAddr 0), some (.ref 0), some (.ref 69), some (.ref 87), some (.int z), a5, a6], [.int z507], (m + 8 + 0, k + 138 + 0), hp505) _ from ?_)
  refine Ev.step (j := 1299) (s' := ([some (.retAddr 0), some (.ref 0), some (.ref 69), some (.ref 87), some (.int z), a5, a6], [], (m + 8 + 0, k + 138 + 0), hp505)) rfl rfl ?_
  refine Ev.step (j := 1440) (s' := ([some (.retAddr 0), some (.ref 0), some (.ref 69), some (.ref 87), some (.int z), a5, a6], [], (m + 8 + 0, k + 138 + 0), hp505)) rfl rfl ?_
  exact K _ _ _ _ _ _ Hhp505 E508 (by omega) (by omega)
set_option maxRecDepth 100000 in
set_option maxHeartbeats 4000000 in
theorem op_logged {xs : Nat → Int32} {n : Nat} {z : Int32} {a5 a6 : Option Value} {m k : Nat} {hp : ab_H} {t : Nat → Nat} {Q : ab_O → Prop} (H : sf_h t hp) (hs : lw_eq hp) (hz0 : 0 ≤ z.toInt) (hz1 : z.toInt + 6 ≤ n) (hn : n ≤ 3072) (hm : m + 21 ≤ 601024) (hk : k + 410 ≤ 7293034) (K : lw_K xs n z m k Q) : Ev (LT xs n) 1302 ([some (.retAddr 0), some (.ref 0), some (.ref 69), some (.ref 87), some (.int z), a5, a6], [], (m, k), hp) Q := by
  refine Ev.step (j := 1303) (s' := ([some (.retAddr 0), some (.ref 0), some (.ref 69), some (.ref 87), some (.int z), a5, a6], [.ref 0], (m, k), hp)) rfl rfl ?_
  refine Ev.step (j := 1304) (s' := ([some (.retAddr 0), some (.ref 0), some (.ref 69), some (.ref 87), some (.int z), a5, a6], [.retAddr 0, .ref 0], (m, k), hp)) rfl rfl ?_
  refine Ev.step (j := 1306) (s' := ([some (.retAddr 0), some (.ref 0), some (.ref 69), some (.ref 87), some (.int z), a5, a6], [.int z, .retAddr 0, .ref 0], (m, k), hp)) rfl rfl ?_
  refine bs_lit (k := 1) rfl rfl fun z509 hz509 => ?_
  refine bs_add rfl (by omega) (by omega) fun z510 hz510 => ?_
  refine ls_sld rfl (by omega) (by omega) ?_
  refine (show Ev _ 1309 ([some (.retAddr 0), some (.ref 0), some (.ref 69), some (.ref 87), some (.int z), a5, a6], [.int (xs z510.toNatClampNeg), .ref 0], (m, k), hp) _ from ?_)
  refine bs_call (K := kq_X10_logged_0df2a5) [.ref 0, .int (xs z510.toNatClampNeg)] [] rfl ct_X10_logged_0df2a5 H rfl rfl rfl (bs_rcv (g := 10) H (bs_R.uq H (g := 10) rfl) (by decide) rfl) (ls_room (Nat.le_of_ble_eq_true rfl) (by omega) (by omega)) ?_ (sf_S_nil) fun r512 hp511 thp511 Hhp511 fhp511 ahp511 php511 => ?_
  · intro q k h
    match q, h with
    | 0, h => cases h; exact bs_jR (bs_R.uq H (g := 10) rfl)
    | 1, h => cases h; exact sf_j0
    | q + 2, h => cases h
  obtain ⟨z513, rfl⟩ := bs_anI ahp511
  have E514 := lw_keep H fhp511 rfl rfl hs
  refine (show Ev _ 1312 ([some (.retAddr 0), some (.ref 0), some (.ref 69), some (.ref 87), some (.int z), a5, a6], [.int z513], (m + 0, k + 0), hp511) _ from ?_)
  refine Ev.step (j := 1313) (s' := ([some (.retAddr 0), some (.ref 0), some (.ref 69), some (.ref 87), some (.int z), a5, a6], [], (m + 0, k + 0), hp511)) rfl rfl ?_
  refine Ev.step (j := 1314) (s' := ([some (.retAddr 0), some (.ref 0), some (.ref 69), some (.ref 87), some (.int z), a5, a6], [.ref 69], (m + 0, k + 0), hp511)) rfl rfl ?_
  refine Ev.step (j := 1315) (s' := ([some (.retAddr 0), some (.ref 0), some (.ref 69), some (.ref 87), some (.int z), a5, a6], [.retAddr 0, .ref 69], (m + 0, k + 0), hp511)) rfl rfl ?_
  refine Ev.step (j := 1317) (s' := ([some (.retAddr 0), some (.ref 0), some (.ref 69), some (.ref 87), some (.int z), a5, a6], [.int z, .retAddr 0, .ref 69], (m + 0, k + 0), hp511)) rfl rfl ?_
  refine bs_lit (k := 1) rfl rfl fun z515 hz515 => ?_
  refine bs_add rfl (by omega) (by omega) fun z516 hz516 => ?_
  refine ls_sld rfl (by omega) (by omega) ?_
  refine (show Ev _ 1320 ([some (.retAddr 0), some (.ref 0), some (.ref 69), some (.ref 87), some (.int z), a5, a6], [.int (xs z516.toNatClampNeg), .ref 69], (m + 0, k + 0), hp511) _ from ?_)
  refine bs_call (K := kq_X11_logged_3d45d6) [.ref 69, .int (xs z516.toNatClampNeg)] [] rfl ct_X11_logged_3d45d6 Hhp511 rfl rfl rfl (bs_rcv (g := 11) Hhp511 (bs_R.uq Hhp511 (g := 11) rfl) (by decide) rfl) (ls_room (Nat.le_of_ble_eq_true rfl) (by omega) (by omega)) ?_ (sf_S_nil) fun r518 hp517 thp517 Hhp517 fhp517 ahp517 php517 => ?_
  · intro q k h
    match q, h with
    | 0, h => cases h; exact bs_jR (bs_R.uq Hhp511 (g := 11) rfl)
    | 1, h => cases h; exact sf_j0
    | q + 2, h => cases h
  obtain ⟨z519, rfl⟩ := bs_anI ahp517
  have E520 := lw_keep Hhp511 fhp517 rfl rfl E514
  refine (show Ev _ 1323 ([some (.retAddr 0), some (.ref 0), some (.ref 69), some (.ref 87), some (.int z), a5, a6], [.int z519], (m + 0 + 0, k + 0 + 0), hp517) _ from ?_)
  refine Ev.step (j := 1324) (s' := ([some (.retAddr 0), some (.ref 0), some (.ref 69), some (.ref 87), some (.int z), a5, a6], [], (m + 0 + 0, k + 0 + 0), hp517)) rfl rfl ?_
  refine Ev.step (j := 1440) (s' := ([some (.retAddr 0), some (.ref 0), some (.ref 69), some (.ref 87), some (.int z), a5, a6], [], (m + 0 + 0, k + 0 + 0), hp517)) rfl rfl ?_
  exact K _ _ _ _ _ _ Hhp517 E520 (by omega) (by omega)
set_option maxRecDepth 100000 in
set_option maxHeartbeats 4000000 in
theorem op_sentence {xs : Nat → Int32} {n : Nat} {z : Int32} {a5 a6 : Option Value} {m k : Nat} {hp : ab_H} {t : Nat → Nat} {Q : ab_O → Prop} (H : sf_h t hp) (hs : lw_eq hp) (hz0 : 0 ≤ z.toInt) (hz1 : z.toInt + 6 ≤ n) (hn : n ≤ 3072) (hm : m + 21 ≤ 601024) (hk : k + 410 ≤ 7293034) (K : lw_K xs n z m k Q) : Ev (LT xs n) 1327 ([some (.retAddr 0), some (.ref 0), some (.ref 69), some (.ref 87), some (.int z), a5, a6], [], (m, k), hp) Q := by
  refine Ev.step (j := 1328) (s' := ([some (.retAddr 0), some (.ref 0), some (.ref 69), some (.ref 87), some (.int z), a5, a6], [.ref 0], (m, k), hp)) rfl rfl ?_
  refine bs_call (K := kq_X10_sentence_4c18a7) [.ref 0] [] rfl ct_X10_sentence_4c18a7 H rfl rfl rfl (bs_rcv (g := 10) H (bs_R.uq H (g := 10) rfl) (by decide) rfl) (ls_room (Nat.le_of_ble_eq_true rfl) (by omega) (by omega)) ?_ (sf_S_nil) fun r522 hp521 thp521 Hhp521 fhp521 ahp521 php521 => ?_
  · intro q k h
    match q, h with
    | 0, h => cases h; exact bs_jR (bs_R.uq H (g := 10) rfl)
    | q + 1, h => cases h
  obtain ⟨z523, rfl⟩ := bs_anI ahp521
  obtain ⟨y524, ey524, uy524, wy524⟩ := (php521 _ (List.mem_of_getElem? (i := 0) rfl)).1 rfl
  replace ey524 : sf_rd hp521 1 1 = some y524 := ey524
  replace uy524 : (0 : Int) ≤ y524 := uy524
  replace wy524 : y524 ≤ (0 : Int) := wy524
  refine (show Ev _ 1331 ([some (.retAddr 0), some (.ref 0), some (.ref 69), some (.ref 87), some (.int z), a5, a6], [.int z523], (m + 0, k + 0), hp521) _ from ?_)
  refine Ev.step (j := 1332) (s' := ([some (.retAddr 0), some (.ref 0), some (.ref 69), some (.ref 87), some (.int z), a5, a6], [], (m + 0, k + 0), hp521)) rfl rfl ?_
  refine Ev.step (j := 1333) (s' := ([some (.retAddr 0), some (.ref 0), some (.ref 69), some (.ref 87), some (.int z), a5, a6], [.ref 69], (m + 0, k + 0), hp521)) rfl rfl ?_
  refine bs_call (K := kq_X11_sentence_h) [.ref 69] [] rfl ct_X11_sentence_h Hhp521 rfl rfl rfl (bs_rcv (g := 11) Hhp521 (bs_R.uq Hhp521 (g := 11) rfl) (by decide) rfl) (ls_room (Nat.le_of_ble_eq_true rfl) (by omega) (by omega)) ?_ (sf_S_nil) fun r526 hp525 thp525 Hhp525 fhp525 ahp525 php525 => ?_
  · intro q k h
    match q, h with
    | 0, h => cases h; exact bs_jR (bs_R.uq Hhp521 (g := 11) rfl)
    | q + 1, h => cases h
  obtain ⟨z527, rfl⟩ := bs_anI ahp525
  obtain ⟨y528, ey528, uy528, wy528⟩ := (php525 _ (List.mem_of_getElem? (i := 0) rfl)).1 rfl
  replace ey528 : sf_rd hp525 69 2 = some y528 := ey528
  replace uy528 : (0 : Int) ≤ y528 := uy528
  replace wy528 : y528 ≤ (0 : Int) := wy528
  have hc2 := (fhp525.2.2.1 _ (bs_R.uq Hhp521 (g := 8) rfl).1 1 (by rw [(bs_R.uq Hhp521 (g := 8) (p := 1) rfl).2]; rfl)).trans ey524
  have E : lw_eq hp525 := ⟨0, hc2.trans (congrArg some (by omega)), ey528.trans (congrArg some (by omega))⟩
  refine (show Ev _ 1336 ([some (.retAddr 0), some (.ref 0), some (.ref 69), some (.ref 87), some (.int z), a5, a6], [.int z527], (m + 0 + 0, k + 0 + 0), hp525) _ from ?_)
  refine Ev.step (j := 1337) (s' := ([some (.retAddr 0), some (.ref 0), some (.ref 69), some (.ref 87), some (.int z), a5, a6], [], (m + 0 + 0, k + 0 + 0), hp525)) rfl rfl ?_
  refine Ev.step (j := 1440) (s' := ([some (.retAddr 0), some (.ref 0), some (.ref 69), some (.ref 87), some (.int z), a5, a6], [], (m + 0 + 0, k + 0 + 0), hp525)) rfl rfl ?_
  exact K _ _ _ _ _ _ Hhp525 E (by omega) (by omega)
set_option maxRecDepth 100000 in
set_option maxHeartbeats 4000000 in
theorem op_said {xs : Nat → Int32} {n : Nat} {z : Int32} {a5 a6 : Option Value} {m k : Nat} {hp : ab_H} {t : Nat → Nat} {Q : ab_O → Prop} (H : sf_h t hp) (hs : lw_eq hp) (hz0 : 0 ≤ z.toInt) (hz1 : z.toInt + 6 ≤ n) (hn : n ≤ 3072) (hm : m + 21 ≤ 601024) (hk : k + 410 ≤ 7293034) (K : lw_K xs n z m k Q) : Ev (LT xs n) 1340 ([some (.retAddr 0), some (.ref 0), some (.ref 69), some (.ref 87), some (.int z), a5, a6], [], (m, k), hp) Q := by
  refine Ev.step (j := 1341) (s' := ([some (.retAddr 0), some (.ref 0), some (.ref 69), some (.ref 87), some (.int z), a5, a6], [.ref 0], (m, k), hp)) rfl rfl ?_
  refine Ev.step (j := 1342) (s' := ([some (.retAddr 0), some (.ref 0), some (.ref 69), some (.ref 87), some (.int z), a5, a6], [.retAddr 0, .ref 0], (m, k), hp)) rfl rfl ?_
  refine Ev.step (j := 1344) (s' := ([some (.retAddr 0), some (.ref 0), some (.ref 69), some (.ref 87), some (.int z), a5, a6], [.int z, .retAddr 0, .ref 0], (m, k), hp)) rfl rfl ?_
  refine bs_lit (k := 1) rfl rfl fun z529 hz529 => ?_
  refine bs_add rfl (by omega) (by omega) fun z530 hz530 => ?_
  refine ls_sld rfl (by omega) (by omega) ?_
  refine (show Ev _ 1347 ([some (.retAddr 0), some (.ref 0), some (.ref 69), some (.ref 87), some (.int z), a5, a6], [.int (xs z530.toNatClampNeg), .ref 0], (m, k), hp) _ from ?_)
  refine bs_call (K := kq_X10_said_0df2a5) [.ref 0, .int (xs z530.toNatClampNeg)] [] rfl ct_X10_said_0df2a5 H rfl rfl rfl (bs_rcv (g := 10) H (bs_R.uq H (g := 10) rfl) (by decide) rfl) (ls_room (Nat.le_of_ble_eq_true rfl) (by omega) (by omega)) ?_ (sf_S_nil) fun r532 hp531 thp531 Hhp531 fhp531 ahp531 php531 => ?_
  · intro q k h
    match q, h with
    | 0, h => cases h; exact bs_jR (bs_R.uq H (g := 10) rfl)
    | 1, h => cases h; exact sf_j0
    | q + 2, h => cases h
  obtain ⟨z533, rfl⟩ := bs_anI ahp531
  have E534 := lw_keep H fhp531 rfl rfl hs
  refine (show Ev _ 1350 ([some (.retAddr 0), some (.ref 0), some (.ref 69), some (.ref 87), some (.int z), a5, a6], [.int z533], (m + 0, k + 0), hp531) _ from ?_)
  refine Ev.step (j := 1351) (s' := ([some (.retAddr 0), some (.ref 0), some (.ref 69), some (.ref 87), some (.int z), a5, a6], [], (m + 0, k + 0), hp531)) rfl rfl ?_
  refine Ev.step (j := 1352) (s' := ([some (.retAddr 0), some (.ref 0), some (.ref 69), some (.ref 87), some (.int z), a5, a6], [.ref 69], (m + 0, k + 0), hp531)) rfl rfl ?_
  refine Ev.step (j := 1353) (s' := ([some (.retAddr 0), some (.ref 0), some (.ref 69), some (.ref 87), some (.int z), a5, a6], [.retAddr 0, .ref 69], (m + 0, k + 0), hp531)) rfl rfl ?_
  refine Ev.step (j := 1355) (s' := ([some (.retAddr 0), some (.ref 0), some (.ref 69), some (.ref 87), some (.int z), a5, a6], [.int z, .retAddr 0, .ref 69], (m + 0, k + 0), hp531)) rfl rfl ?_
  refine bs_lit (k := 1) rfl rfl fun z535 hz535 => ?_
  refine bs_add rfl (by omega) (by omega) fun z536 hz536 => ?_
  refine ls_sld rfl (by omega) (by omega) ?_
  refine (show Ev _ 1358 ([some (.retAddr 0), some (.ref 0), some (.ref 69), some (.ref 87), some (.int z), a5, a6], [.int (xs z536.toNatClampNeg), .ref 69], (m + 0, k + 0), hp531) _ from ?_)
  refine bs_call (K := kq_X11_said_3d45d6) [.ref 69, .int (xs z536.toNatClampNeg)] [] rfl ct_X11_said_3d45d6 Hhp531 rfl rfl rfl (bs_rcv (g := 11) Hhp531 (bs_R.uq Hhp531 (g := 11) rfl) (by decide) rfl) (ls_room (Nat.le_of_ble_eq_true rfl) (by omega) (by omega)) ?_ (sf_S_nil) fun r538 hp537 thp537 Hhp537 fhp537 ahp537 php537 => ?_
  · intro q k h
    match q, h with
    | 0, h => cases h; exact bs_jR (bs_R.uq Hhp531 (g := 11) rfl)
    | 1, h => cases h; exact sf_j0
    | q + 2, h => cases h
  obtain ⟨z539, rfl⟩ := bs_anI ahp537
  have E540 := lw_keep Hhp531 fhp537 rfl rfl E534
  refine (show Ev _ 1361 ([some (.retAddr 0), some (.ref 0), some (.ref 69), some (.ref 87), some (.int z), a5, a6], [.int z539], (m + 0 + 0, k + 0 + 0), hp537) _ from ?_)
  refine Ev.step (j := 1362) (s' := ([some (.retAddr 0), some (.ref 0), some (.ref 69), some (.ref 87), some (.int z), a5, a6], [], (m + 0 + 0, k + 0 + 0), hp537)) rfl rfl ?_
  refine Ev.step (j := 1440) (s' := ([some (.retAddr 0), some (.ref 0), some (.ref 69), some (.ref 87), some (.int z), a5, a6], [], (m + 0 + 0, k + 0 + 0), hp537)) rfl rfl ?_
  exact K _ _ _ _ _ _ Hhp537 E540 (by omega) (by omega)
set_option maxRecDepth 100000 in
set_option maxHeartbeats 4000000 in
theorem op_image {xs : Nat → Int32} {n : Nat} {z : Int32} {a5 a6 : Option Value} {m k : Nat} {hp : ab_H} {t : Nat → Nat} {Q : ab_O → Prop} (H : sf_h t hp) (hs : lw_eq hp) (hz0 : 0 ≤ z.toInt) (hz1 : z.toInt + 6 ≤ n) (hn : n ≤ 3072) (hm : m + 21 ≤ 601024) (hk : k + 410 ≤ 7293034) (K : lw_K xs n z m k Q) : Ev (LT xs n) 1365 ([some (.retAddr 0), some (.ref 0), some (.ref 69), some (.ref 87), some (.int z), a5, a6], [], (m, k), hp) Q := by
  refine Ev.step (j := 1366) (s' := ([some (.retAddr 0), some (.ref 0), some (.ref 69), some (.ref 87), some (.int z), a5, a6], [.ref 0], (m, k), hp)) rfl rfl ?_
  refine Ev.step (j := 1367) (s' := ([some (.retAddr 0), some (.ref 0), some (.ref 69), some (.ref 87), some (.int z), a5, a6], [.retAddr 0, .ref 0], (m, k), hp)) rfl rfl ?_
  refine Ev.step (j := 1369) (s' := ([some (.retAddr 0), some (.ref 0), some (.ref 69), some (.ref 87), some (.int z), a5, a6], [.int z, .retAddr 0, .ref 0], (m, k), hp)) rfl rfl ?_
  refine bs_lit (k := 1) rfl rfl fun z541 hz541 => ?_
  refine bs_add rfl (by omega) (by omega) fun z542 hz542 => ?_
  refine ls_sld rfl (by omega) (by omega) ?_
  refine (show Ev _ 1372 ([some (.retAddr 0), some (.ref 0), some (.ref 69), some (.ref 87), some (.int z), a5, a6], [.int (xs z542.toNatClampNeg), .ref 0], (m, k), hp) _ from ?_)
  refine bs_call (K := kq_X10_image_h) [.ref 0, .int (xs z542.toNatClampNeg)] [] rfl ct_X10_image_h H rfl rfl rfl (bs_rcv (g := 10) H (bs_R.uq H (g := 10) rfl) (by decide) rfl) (ls_room (Nat.le_of_ble_eq_true rfl) (by omega) (by omega)) ?_ (sf_S_nil) fun r544 hp543 thp543 Hhp543 fhp543 ahp543 php543 => ?_
  · intro q k h
    match q, h with
    | 0, h => cases h; exact bs_jR (bs_R.uq H (g := 10) rfl)
    | 1, h => cases h; exact sf_j0
    | q + 2, h => cases h
  obtain ⟨z545, rfl⟩ := bs_anI ahp543
  have E546 := lw_keep H fhp543 rfl rfl hs
  refine (show Ev _ 1375 ([some (.retAddr 0), some (.ref 0), some (.ref 69), some (.ref 87), some (.int z), a5, a6], [.int z545], (m + 21, k + 410), hp543) _ from ?_)
  refine Ev.step (j := 1376) (s' := ([some (.retAddr 0), some (.ref 0), some (.ref 69), some (.ref 87), some (.int z), a5, a6], [], (m + 21, k + 410), hp543)) rfl rfl ?_
  refine Ev.step (j := 1377) (s' := ([some (.retAddr 0), some (.ref 0), some (.ref 69), some (.ref 87), some (.int z), a5, a6], [.ref 69], (m + 21, k + 410), hp543)) rfl rfl ?_
  refine Ev.step (j := 1378) (s' := ([some (.retAddr 0), some (.ref 0), some (.ref 69), some (.ref 87), some (.int z), a5, a6], [.retAddr 0, .ref 69], (m + 21, k + 410), hp543)) rfl rfl ?_
  refine Ev.step (j := 1380) (s' := ([some (.retAddr 0), some (.ref 0), some (.ref 69), some (.ref 87), some (.int z), a5, a6], [.int z, .retAddr 0, .ref 69], (m + 21, k + 410), hp543)) rfl rfl ?_
  refine bs_lit (k := 1) rfl rfl fun z547 hz547 => ?_
  refine bs_add rfl (by omega) (by omega) fun z548 hz548 => ?_
  refine ls_sld rfl (by omega) (by omega) ?_
  refine (show Ev _ 1383 ([some (.retAddr 0), some (.ref 0), some (.ref 69), some (.ref 87), some (.int z), a5, a6], [.int (xs z548.toNatClampNeg), .ref 69], (m + 21, k + 410), hp543) _ from ?_)
  refine bs_call (K := kq_X11_image_h) [.ref 69, .int (xs z548.toNatClampNeg)] [] rfl ct_X11_image_h Hhp543 rfl rfl rfl (bs_rcv (g := 11) Hhp543 (bs_R.uq Hhp543 (g := 11) rfl) (by decide) rfl) (ls_room (Nat.le_of_ble_eq_true rfl) (by omega) (by omega)) ?_ (sf_S_nil) fun r550 hp549 thp549 Hhp549 fhp549 ahp549 php549 => ?_
  · intro q k h
    match q, h with
    | 0, h => cases h; exact bs_jR (bs_R.uq Hhp543 (g := 11) rfl)
    | 1, h => cases h; exact sf_j0
    | q + 2, h => cases h
  obtain ⟨z551, rfl⟩ := bs_anI ahp549
  have E552 := lw_keep Hhp543 fhp549 rfl rfl E546
  refine (show Ev _ 1386 ([some (.retAddr 0), some (.ref 0), some (.ref 69), some (.ref 87), some (.int z), a5, a6], [.int z551], (m + 21 + 0, k + 410 + 0), hp549) _ from ?_)
  refine Ev.step (j := 1387) (s' := ([some (.retAddr 0), some (.ref 0), some (.ref 69), some (.ref 87), some (.int z), a5, a6], [], (m + 21 + 0, k + 410 + 0), hp549)) rfl rfl ?_
  refine Ev.step (j := 1440) (s' := ([some (.retAddr 0), some (.ref 0), some (.ref 69), some (.ref 87), some (.int z), a5, a6], [], (m + 21 + 0, k + 410 + 0), hp549)) rfl rfl ?_
  exact K _ _ _ _ _ _ Hhp549 E552 (by omega) (by omega)
set_option maxRecDepth 100000 in
set_option maxHeartbeats 4000000 in
theorem op_restore {xs : Nat → Int32} {n : Nat} {z : Int32} {a5 a6 : Option Value} {m k : Nat} {hp : ab_H} {t : Nat → Nat} {Q : ab_O → Prop} (H : sf_h t hp) (hs : lw_eq hp) (hz0 : 0 ≤ z.toInt) (hz1 : z.toInt + 6 ≤ n) (hn : n ≤ 3072) (hm : m + 21 ≤ 601024) (hk : k + 410 ≤ 7293034) (K : lw_K xs n z m k Q) : Ev (LT xs n) 1390 ([some (.retAddr 0), some (.ref 0), some (.ref 69), some (.ref 87), some (.int z), a5, a6], [], (m, k), hp) Q := by
  refine Ev.step (j := 1391) (s' := ([some (.retAddr 0), some (.ref 0), some (.ref 69), some (.ref 87), some (.int z), a5, a6], [.ref 0], (m, k), hp)) rfl rfl ?_
  refine Ev.step (j := 1392) (s' := ([some (.retAddr 0), some (.ref 0), some (.ref 69), some (.ref 87), some (.int z), a5, a6], [.retAddr 0, .ref 0], (m, k), hp)) rfl rfl ?_
  refine Ev.step (j := 1394) (s' := ([some (.retAddr 0), some (.ref 0), some (.ref 69), some (.ref 87), some (.int z), a5, a6], [.int z, .retAddr 0, .ref 0], (m, k), hp)) rfl rfl ?_
  refine bs_lit (k := 1) rfl rfl fun z553 hz553 => ?_
  refine bs_add rfl (by omega) (by omega) fun z554 hz554 => ?_
  refine ls_sld rfl (by omega) (by omega) ?_
  refine (show Ev _ 1397 ([some (.retAddr 0), some (.ref 0), some (.ref 69), some (.ref 87), some (.int z), a5, a6], [.int (xs z554.toNatClampNeg), .ref 0], (m, k), hp) _ from ?_)
  refine bs_call (K := kq_X10_restore_h) [.ref 0, .int (xs z554.toNatClampNeg)] [] rfl ct_X10_restore_h H rfl rfl rfl (bs_rcv (g := 10) H (bs_R.uq H (g := 10) rfl) (by decide) rfl) (ls_room (Nat.le_of_ble_eq_true rfl) (by omega) (by omega)) ?_ (sf_S_nil) fun r556 hp555 thp555 Hhp555 fhp555 ahp555 php555 => ?_
  · intro q k h
    match q, h with
    | 0, h => cases h; exact bs_jR (bs_R.uq H (g := 10) rfl)
    | 1, h => cases h; exact sf_j0
    | q + 2, h => cases h
  obtain ⟨z557, rfl⟩ := bs_anI ahp555
  have E558 := lw_keep H fhp555 rfl rfl hs
  refine (show Ev _ 1400 ([some (.retAddr 0), some (.ref 0), some (.ref 69), some (.ref 87), some (.int z), a5, a6], [.int z557], (m + 0, k + 0), hp555) _ from ?_)
  refine Ev.step (j := 1401) (s' := ([some (.retAddr 0), some (.ref 0), some (.ref 69), some (.ref 87), some (.int z), a5, a6], [], (m + 0, k + 0), hp555)) rfl rfl ?_
  refine Ev.step (j := 1402) (s' := ([some (.retAddr 0), some (.ref 0), some (.ref 69), some (.ref 87), some (.int z), a5, a6], [.ref 69], (m + 0, k + 0), hp555)) rfl rfl ?_
  refine Ev.step (j := 1403) (s' := ([some (.retAddr 0), some (.ref 0), some (.ref 69), some (.ref 87), some (.int z), a5, a6], [.retAddr 0, .ref 69], (m + 0, k + 0), hp555)) rfl rfl ?_
  refine Ev.step (j := 1405) (s' := ([some (.retAddr 0), some (.ref 0), some (.ref 69), some (.ref 87), some (.int z), a5, a6], [.int z, .retAddr 0, .ref 69], (m + 0, k + 0), hp555)) rfl rfl ?_
  refine bs_lit (k := 1) rfl rfl fun z559 hz559 => ?_
  refine bs_add rfl (by omega) (by omega) fun z560 hz560 => ?_
  refine ls_sld rfl (by omega) (by omega) ?_
  refine (show Ev _ 1408 ([some (.retAddr 0), some (.ref 0), some (.ref 69), some (.ref 87), some (.int z), a5, a6], [.int (xs z560.toNatClampNeg), .ref 69], (m + 0, k + 0), hp555) _ from ?_)
  refine bs_call (K := kq_X11_restore_h) [.ref 69, .int (xs z560.toNatClampNeg)] [] rfl ct_X11_restore_h Hhp555 rfl rfl rfl (bs_rcv (g := 11) Hhp555 (bs_R.uq Hhp555 (g := 11) rfl) (by decide) rfl) (ls_room (Nat.le_of_ble_eq_true rfl) (by omega) (by omega)) ?_ (sf_S_nil) fun r562 hp561 thp561 Hhp561 fhp561 ahp561 php561 => ?_
  · intro q k h
    match q, h with
    | 0, h => cases h; exact bs_jR (bs_R.uq Hhp555 (g := 11) rfl)
    | 1, h => cases h; exact sf_j0
    | q + 2, h => cases h
  obtain ⟨z563, rfl⟩ := bs_anI ahp561
  have E564 := lw_keep Hhp555 fhp561 rfl rfl E558
  refine (show Ev _ 1411 ([some (.retAddr 0), some (.ref 0), some (.ref 69), some (.ref 87), some (.int z), a5, a6], [.int z563], (m + 0 + 0, k + 0 + 0), hp561) _ from ?_)
  refine Ev.step (j := 1412) (s' := ([some (.retAddr 0), some (.ref 0), some (.ref 69), some (.ref 87), some (.int z), a5, a6], [], (m + 0 + 0, k + 0 + 0), hp561)) rfl rfl ?_
  refine Ev.step (j := 1440) (s' := ([some (.retAddr 0), some (.ref 0), some (.ref 69), some (.ref 87), some (.int z), a5, a6], [], (m + 0 + 0, k + 0 + 0), hp561)) rfl rfl ?_
  exact K _ _ _ _ _ _ Hhp561 E564 (by omega) (by omega)
set_option maxRecDepth 100000 in
set_option maxHeartbeats 4000000 in
theorem op_count {xs : Nat → Int32} {n : Nat} {z : Int32} {a5 a6 : Option Value} {m k : Nat} {hp : ab_H} {t : Nat → Nat} {Q : ab_O → Prop} (H : sf_h t hp) (hs : lw_eq hp) (hz0 : 0 ≤ z.toInt) (hz1 : z.toInt + 6 ≤ n) (hn : n ≤ 3072) (hm : m + 21 ≤ 601024) (hk : k + 410 ≤ 7293034) (K : lw_K xs n z m k Q) : Ev (LT xs n) 1415 ([some (.retAddr 0), some (.ref 0), some (.ref 69), some (.ref 87), some (.int z), a5, a6], [], (m, k), hp) Q := by
  refine Ev.step (j := 1416) (s' := ([some (.retAddr 0), some (.ref 0), some (.ref 69), some (.ref 87), some (.int z), a5, a6], [.ref 0], (m, k), hp)) rfl rfl ?_
  refine Ev.step (j := 1417) (s' := ([some (.retAddr 0), some (.ref 0), some (.ref 69), some (.ref 87), some (.int z), a5, a6], [.retAddr 0, .ref 0], (m, k), hp)) rfl rfl ?_
  refine Ev.step (j := 1419) (s' := ([some (.retAddr 0), some (.ref 0), some (.ref 69), some (.ref 87), some (.int z), a5, a6], [.int z, .retAddr 0, .ref 0], (m, k), hp)) rfl rfl ?_
  refine bs_lit (k := 1) rfl rfl fun z565 hz565 => ?_
  refine bs_add rfl (by omega) (by omega) fun z566 hz566 => ?_
  refine ls_sld rfl (by omega) (by omega) ?_
  refine (show Ev _ 1422 ([some (.retAddr 0), some (.ref 0), some (.ref 69), some (.ref 87), some (.int z), a5, a6], [.int (xs z566.toNatClampNeg), .ref 0], (m, k), hp) _ from ?_)
  refine bs_call (K := kq_X10_count_0df2a5) [.ref 0, .int (xs z566.toNatClampNeg)] [] rfl ct_X10_count_0df2a5 H rfl rfl rfl (bs_rcv (g := 10) H (bs_R.uq H (g := 10) rfl) (by decide) rfl) (ls_room (Nat.le_of_ble_eq_true rfl) (by omega) (by omega)) ?_ (sf_S_nil) fun r568 hp567 thp567 Hhp567 fhp567 ahp567 php567 => ?_
  · intro q k h
    match q, h with
    | 0, h => cases h; exact bs_jR (bs_R.uq H (g := 10) rfl)
    | 1, h => cases h; exact sf_j0
    | q + 2, h => cases h
  obtain ⟨z569, rfl⟩ := bs_anI ahp567
  have E570 := lw_keep H fhp567 rfl rfl hs
  refine (show Ev _ 1425 ([some (.retAddr 0), some (.ref 0), some (.ref 69), some (.ref 87), some (.int z), a5, a6], [.int z569], (m + 0, k + 0), hp567) _ from ?_)
  refine Ev.step (j := 1426) (s' := ([some (.retAddr 0), some (.ref 0), some (.ref 69), some (.ref 87), some (.int z), a5, a6], [], (m + 0, k + 0), hp567)) rfl rfl ?_
  refine Ev.step (j := 1427) (s' := ([some (.retAddr 0), some (.ref 0), some (.ref 69), some (.ref 87), some (.int z), a5, a6], [.ref 69], (m + 0, k + 0), hp567)) rfl rfl ?_
  refine Ev.step (j := 1428) (s' := ([some (.retAddr 0), some (.ref 0), some (.ref 69), some (.ref 87), some (.int z), a5, a6], [.retAddr 0, .ref 69], (m + 0, k + 0), hp567)) rfl rfl ?_
  refine Ev.step (j := 1430) (s' := ([some (.retAddr 0), some (.ref 0), some (.ref 69), some (.ref 87), some (.int z), a5, a6], [.int z, .retAddr 0, .ref 69], (m + 0, k + 0), hp567)) rfl rfl ?_
  refine bs_lit (k := 1) rfl rfl fun z571 hz571 => ?_
  refine bs_add rfl (by omega) (by omega) fun z572 hz572 => ?_
  refine ls_sld rfl (by omega) (by omega) ?_
  refine (show Ev _ 1433 ([some (.retAddr 0), some (.ref 0), some (.ref 69), some (.ref 87), some (.int z), a5, a6], [.int (xs z572.toNatClampNeg), .ref 69], (m + 0, k + 0), hp567) _ from ?_)
  refine bs_call (K := kq_X11_count_3d45d6) [.ref 69, .int (xs z572.toNatClampNeg)] [] rfl ct_X11_count_3d45d6 Hhp567 rfl rfl rfl (bs_rcv (g := 11) Hhp567 (bs_R.uq Hhp567 (g := 11) rfl) (by decide) rfl) (ls_room (Nat.le_of_ble_eq_true rfl) (by omega) (by omega)) ?_ (sf_S_nil) fun r574 hp573 thp573 Hhp573 fhp573 ahp573 php573 => ?_
  · intro q k h
    match q, h with
    | 0, h => cases h; exact bs_jR (bs_R.uq Hhp567 (g := 11) rfl)
    | 1, h => cases h; exact sf_j0
    | q + 2, h => cases h
  obtain ⟨z575, rfl⟩ := bs_anI ahp573
  have E576 := lw_keep Hhp567 fhp573 rfl rfl E570
  refine (show Ev _ 1436 ([some (.retAddr 0), some (.ref 0), some (.ref 69), some (.ref 87), some (.int z), a5, a6], [.int z575], (m + 0 + 0, k + 0 + 0), hp573) _ from ?_)
  refine Ev.step (j := 1437) (s' := ([some (.retAddr 0), some (.ref 0), some (.ref 69), some (.ref 87), some (.int z), a5, a6], [], (m + 0 + 0, k + 0 + 0), hp573)) rfl rfl ?_
  refine Ev.step (j := 1440) (s' := ([some (.retAddr 0), some (.ref 0), some (.ref 69), some (.ref 87), some (.int z), a5, a6], [], (m + 0 + 0, k + 0 + 0), hp573)) rfl rfl ?_
  exact K _ _ _ _ _ _ Hhp573 E576 (by omega) (by omega)
