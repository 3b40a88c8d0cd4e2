-- 65.o2.lean.txt
section
set_option maxRecDepth 100000 in
set_option maxHeartbeats 4000000 in
theorem op_price {xs : Nat → Int32} {n : Nat} {z : Int32} {a5 a6 : Option Value} {m k : Nat} {hp : ab_H} {t : Nat → Nat} {Q : ab_O → Prop} (H : sf_h t hp) (hs : lw_eq hp) (hz0 : 0 ≤ z.toInt) (hz1 : z.toInt + 6 ≤ n) (hn : n ≤ 3072) (hm : m + 21 ≤ 601024) (hk : k + 410 ≤ 7293034) (K : lw_K xs n z m k Q) : Ev (LT xs n) 1103 ([some (.retAddr 0), some (.ref 0), some (.ref 69), some (.ref 87), some (.int z), a5, a6], [], (m, k), hp) Q := by
  obtain ⟨hs, D, hD, hC, hX⟩ := hs
  refine Ev.step (j := 1104) (s' := ([some (.retAddr 0), some (.ref 0), some (.ref 69), some (.ref 87), some (.int z), a5, a6], [.ref 0], (m, k), hp)) rfl rfl ?_
  refine Ev.step (j := 1105) (s' := ([some (.retAddr 0), some (.ref 0), some (.ref 69), some (.ref 87), some (.int z), a5, a6], [.retAddr 0, .ref 0], (m, k), hp)) rfl rfl ?_
  refine Ev.step (j := 1107) (s' := ([some (.retAddr 0), some (.ref 0), some (.ref 69), some (.ref 87), some (.int z), a5, a6], [.int z, .retAddr 0, .ref 0], (m, k), hp)) rfl rfl ?_
  refine bs_lit (k := 1) rfl rfl fun z391 hz391 => ?_
  refine bs_add rfl (by omega) (by omega) fun z392 hz392 => ?_
  refine ls_sld rfl (by omega) (by omega) ?_
  refine (show Ev _ 1110 ([some (.retAddr 0), some (.ref 0), some (.ref 69), some (.ref 87), some (.int z), a5, a6], [.int (xs z392.toNatClampNeg), .ref 0], (m, k), hp) _ from ?_)
  exact by
   refine Ev.step (j := 1111) (s' := ([some (.retAddr 0), some (.ref 0), some (.ref 69), some (.ref 87), some (.int z), a5, a6], [.retAddr 0, .int (xs z392.toNatClampNeg), .ref 0], (m, k), hp)) rfl rfl ?_
   refine Ev.step (j := 1113) (s' := ([some (.retAddr 0), some (.ref 0), some (.ref 69), some (.ref 87), some (.int z), a5, a6], [.int z, .retAddr 0, .int (xs z392.toNatClampNeg), .ref 0], (m, k), hp)) rfl rfl ?_
   refine bs_lit (k := 2) rfl rfl fun z393 hz393 => ?_
   refine bs_add rfl (by omega) (by omega) fun z394 hz394 => ?_
   refine ls_sld rfl (by omega) (by omega) ?_
   refine (show Ev _ 1116 ([some (.retAddr 0), some (.ref 0), some (.ref 69), some (.ref 87), some (.int z), a5, a6], [.int (xs z394.toNatClampNeg), .int (xs z392.toNatClampNeg), .ref 0], (m, k), hp) _ from ?_)
   refine bs_call (K := kq_X10_price_57b5ea) [.ref 0, .int (xs z392.toNatClampNeg), .int (xs z394.toNatClampNeg)] [] rfl ct_X10_price_57b5ea H rfl rfl rfl (bs_rcv (g := 10) H (bs_R.uq H (g := 10) rfl) (by decide) rfl) (ls_room (Nat.le_of_ble_eq_true rfl) (by omega) (by omega)) ?_ (sf_S_nil) fun r396 hp395 thp395 Hhp395 fhp395 ahp395 php395 => ?_
   · intro q k h
     match q, h with
     | 0, h => cases h; exact bs_jR (bs_R.uq H (g := 10) rfl)
     | 1, h => cases h; exact sf_j0
     | 2, h => cases h; exact sf_j0
     | q + 3, h => cases h
   obtain ⟨z397, rfl⟩ := bs_anI ahp395
   have E398 := lw_keep H fhp395 rfl rfl rfl rfl rfl hs
   obtain ⟨hC1, kx1⟩ := CRW (by rfl) H Hhp395 fhp395 hC
   have hX1 := kx1 _ hX
   refine (show Ev _ 1119 ([some (.retAddr 0), some (.ref 0), some (.ref 69), some (.ref 87), some (.int z), a5, a6], [.int z397], (m + 0, k + 0), hp395) _ from ?_)
   exact by
    refine Ev.step (j := 1120) (s' := ([some (.retAddr 0), some (.ref 0), some (.ref 69), some (.ref 87), some (.int z), a5, a6], [], (m + 0, k + 0), hp395)) rfl rfl ?_
    refine Ev.step (j := 1121) (s' := ([some (.retAddr 0), some (.ref 0), some (.ref 69), some (.ref 87), some (.int z), a5, a6], [.ref 69], (m + 0, k + 0), hp395)) rfl rfl ?_
    refine Ev.step (j := 1122) (s' := ([some (.retAddr 0), some (.ref 0), some (.ref 69), some (.ref 87), some (.int z), a5, a6], [.retAddr 0, .ref 69], (m + 0, k + 0), hp395)) rfl rfl ?_
    refine Ev.step (j := 1124) (s' := ([some (.retAddr 0), some (.ref 0), some (.ref 69), some (.ref 87), some (.int z), a5, a6], [.int z, .retAddr 0, .ref 69], (m + 0, k + 0), hp395)) rfl rfl ?_
    refine bs_lit (k := 1) rfl rfl fun z399 hz399 => ?_
    refine bs_add rfl (by omega) (by omega) fun z400 hz400 => ?_
    refine ls_sld rfl (by omega) (by omega) ?_
    refine (show Ev _ 1127 ([some (.retAddr 0), some (.ref 0), some (.ref 69), some (.ref 87), some (.int z), a5, a6], [.int (xs z400.toNatClampNeg), .ref 69], (m + 0, k + 0), hp395) _ from ?_)
    exact by
     refine Ev.step (j := 1128) (s' := ([some (.retAddr 0), some (.ref 0), some (.ref 69), some (.ref 87), some (.int z), a5, a6], [.retAddr 0, .int (xs z400.toNatClampNeg), .ref 69], (m + 0, k + 0), hp395)) rfl rfl ?_
     refine Ev.step (j := 1130) (s' := ([some (.retAddr 0), some (.ref 0), some (.ref 69), some (.ref 87), some (.int z), a5, a6], [.int z, .retAddr 0, .int (xs z400.toNatClampNeg), .ref 69], (m + 0, k + 0), hp395)) rfl rfl ?_
     refine bs_lit (k := 2) rfl rfl fun z401 hz401 => ?_
     refine bs_add rfl (by omega) (by omega) fun z402 hz402 => ?_
     refine ls_sld rfl (by omega) (by omega) ?_
     refine (show Ev _ 1133 ([some (.retAddr 0), some (.ref 0), some (.ref 69), some (.ref 87), some (.int z), a5, a6], [.int (xs z402.toNatClampNeg), .int (xs z400.toNatClampNeg), .ref 69], (m + 0, k + 0), hp395) _ from ?_)
     refine bs_call (K := kq_X11_price_334faa) [.ref 69, .int (xs z400.toNatClampNeg), .int (xs z402.toNatClampNeg)] [] rfl ct_X11_price_334faa Hhp395 rfl rfl rfl (bs_rcv (g := 11) Hhp395 (bs_R.uq Hhp395 (g := 11) rfl) (by decide) rfl) (ls_room (Nat.le_of_ble_eq_true rfl) (by omega) (by omega)) ?_ (sf_S_nil) fun r404 hp403 thp403 Hhp403 fhp403 ahp403 php403 => ?_
     · intro q k h
       match q, h with
       | 0, h => cases h; exact bs_jR (bs_R.uq Hhp395 (g := 11) rfl)
       | 1, h => cases h; exact sf_j0
       | 2, h => cases h; exact sf_j0
       | q + 3, h => cases h
     obtain ⟨z405, rfl⟩ := bs_anI ahp403
     have E406 := lw_keep Hhp395 fhp403 rfl rfl rfl rfl rfl E398
     obtain ⟨hX2, kc2⟩ := XRW (by rfl) (by rfl) Hhp395 Hhp403 fhp403 hC1.c hX1
     have hC2 := kc2 _ hC1
     refine (show Ev _ 1136 ([some (.retAddr 0), some (.ref 0), some (.ref 69), some (.ref 87), some (.int z), a5, a6], [.int z405], (m + 0 + 0, k + 0 + 0), hp403) _ from ?_)
     exact by
      refine Ev.step (j := 1137) (s' := ([some (.retAddr 0), some (.ref 0), some (.ref 69), some (.ref 87), some (.int z), a5, a6], [], (m + 0 + 0, k + 0 + 0), hp403)) rfl rfl ?_
      refine Ev.step (j := 1440) (s' := ([some (.retAddr 0), some (.ref 0), some (.ref 69), some (.ref 87), some (.int z), a5, a6], [], (m + 0 + 0, k + 0 + 0), hp403)) rfl rfl ?_
      exact K _ _ _ _ _ _ Hhp403 ⟨E406, D, hD, hC2, hX2⟩ (by omega) (by omega)
set_option maxRecDepth 100000 in
set_option maxHeartbeats 4000000 in
theorem op_dearest {xs : Nat → Int32} {n : Nat} {z : Int32} {a5 a6 : Option Value} {m k : Nat} {hp : ab_H} {t : Nat → Nat} {Q : ab_O → Prop} (H : sf_h t hp) (hs : lw_eq hp) (hz0 : 0 ≤ z.toInt) (hz1 : z.toInt + 6 ≤ n) (hn : n ≤ 3072) (hm : m + 21 ≤ 601024) (hk : k + 410 ≤ 7293034) (K : lw_K xs n z m k Q) : Ev (LT xs n) 1140 ([some (.retAddr 0), some (.ref 0), some (.ref 69), some (.ref 87), some (.int z), a5, a6], [], (m, k), hp) Q := by
  obtain ⟨hs, D, hD, hC, hX⟩ := hs
  refine Ev.step (j := 1141) (s' := ([some (.retAddr 0), some (.ref 0), some (.ref 69), some (.ref 87), some (.int z), a5, a6], [.ref 0], (m, k), hp)) rfl rfl ?_
  refine bs_callx (K := kq_X10_dearest_4c18a7) [.ref 0] [] rfl (sf_cX ct_X10_dearest_4c18a7) H rfl rfl rfl (bs_rcv (g := 10) H (bs_R.uq H (g := 10) rfl) (by decide) rfl) (ls_room (Nat.le_of_ble_eq_true rfl) (by omega) (by omega)) ?_ (sf_S_nil) fun r408 hp407 thp407 Hhp407 fhp407 ahp407 php407 xhp407 => ?_
  · intro q k h
    match q, h with
    | 0, h => cases h; exact bs_jR (bs_R.uq H (g := 10) rfl)
    | q + 1, h => cases h
  obtain ⟨z409, rfl⟩ := bs_anI ahp407
  have E410 := lw_keep H fhp407 rfl rfl rfl rfl rfl hs
  obtain ⟨ew1, hC1, hX1⟩ := pC H (d_dearest hC hD) xhp407 hX
  refine (show Ev _ 1144 ([some (.retAddr 0), some (.ref 0), some (.ref 69), some (.ref 87), some (.int z), a5, a6], [.int z409], (m + 0, k + 0), hp407) _ from ?_)
  refine Ev.step (j := 1145) (s' := ([some (.retAddr 0), some (.ref 0), some (.ref 69), some (.ref 87), some (.int z), a5, a6], [], (m + 0, k + 0), hp407)) rfl rfl ?_
  exact by
   refine Ev.step (j := 1146) (s' := ([some (.retAddr 0), some (.ref 0), some (.ref 69), some (.ref 87), some (.int z), a5, a6], [.ref 69], (m + 0, k + 0), hp407)) rfl rfl ?_
   refine bs_callx (K := kq_X11_dearest_6afe8b) [.ref 69] [] rfl (sf_cX ct_X11_dearest_6afe8b) Hhp407 rfl rfl rfl (bs_rcv (g := 11) Hhp407 (bs_R.uq Hhp407 (g := 11) rfl) (by decide) rfl) (ls_room (Nat.le_of_ble_eq_true rfl) (by omega) (by omega)) ?_ (sf_S_nil) fun r412 hp411 thp411 Hhp411 fhp411 ahp411 php411 xhp411 => ?_
   · intro q k h
     match q, h with
     | 0, h => cases h; exact bs_jR (bs_R.uq Hhp407 (g := 11) rfl)
     | q + 1, h => cases h
   obtain ⟨z413, rfl⟩ := bs_anI ahp411
   have E414 := lw_keep Hhp407 fhp411 rfl rfl rfl rfl rfl E410
   obtain ⟨ew2, hX2, hC2⟩ := pX Hhp407 (e_dearest hX1 hD) xhp411 hC1
   refine (show Ev _ 1149 ([some (.retAddr 0), some (.ref 0), some (.ref 69), some (.ref 87), some (.int z), a5, a6], [.int z413], (m + 0 + 0, k + 0 + 0), hp411) _ from ?_)
   refine Ev.step (j := 1150) (s' := ([some (.retAddr 0), some (.ref 0), some (.ref 69), some (.ref 87), some (.int z), a5, a6], [], (m + 0 + 0, k + 0 + 0), hp411)) rfl rfl ?_
   refine Ev.step (j := 1440) (s' := ([some (.retAddr 0), some (.ref 0), some (.ref 69), some (.ref 87), some (.int z), a5, a6], [], (m + 0 + 0, k + 0 + 0), hp411)) rfl rfl ?_
   exact K _ _ _ _ _ _ Hhp411 ⟨E414, _, hD, hC2, hX2⟩ (by omega) (by omega)
set_option maxRecDepth 100000 in
set_option maxHeartbeats 4000000 in
theorem op_rats {xs : Nat → Int32} {n : Nat} {z : Int32} {a5 a6 : Option Value} {m k : Nat} {hp : ab_H} {t : Nat → Nat} {Q : ab_O → Prop} (H : sf_h t hp) (hs : lw_eq hp) (hz0 : 0 ≤ z.toInt) (hz1 : z.toInt + 6 ≤ n) (hn : n ≤ 3072) (hm : m + 21 ≤ 601024) (hk : k + 410 ≤ 7293034) (K : lw_K xs n z m k Q) : Ev (LT xs n) 1153 ([some (.retAddr 0), some (.ref 0), some (.ref 69), some (.ref 87), some (.int z), a5, a6], [], (m, k), hp) Q := by
  obtain ⟨hs, D, hD, hC, hX⟩ := hs
  refine Ev.step (j := 1154) (s' := ([some (.retAddr 0), some (.ref 0), some (.ref 69), some (.ref 87), some (.int z), a5, a6], [.ref 0], (m, k), hp)) rfl rfl ?_
  refine bs_callx (K := kq_X10_rats_4c18a7) [.ref 0] [] rfl (sf_cX ct_X10_rats_4c18a7) H rfl rfl rfl (bs_rcv (g := 10) H (bs_R.uq H (g := 10) rfl) (by decide) rfl) (ls_room (Nat.le_of_ble_eq_true rfl) (by omega) (by omega)) ?_ (sf_S_nil) fun r416 hp415 thp415 Hhp415 fhp415 ahp415 php415 xhp415 => ?_
  · intro q k h
    match q, h with
    | 0, h => cases h; exact bs_jR (bs_R.uq H (g := 10) rfl)
    | q + 1, h => cases h
  obtain ⟨z417, rfl⟩ := bs_anI ahp415
  have E418 := lw_keep H fhp415 rfl rfl rfl rfl rfl hs
  obtain ⟨ew1, hC1, hX1⟩ := pC H (d_rats hC hD) xhp415 hX
  refine (show Ev _ 1157 ([some (.retAddr 0), some (.ref 0), some (.ref 69), some (.ref 87), some (.int z), a5, a6], [.int z417], (m + 0, k + 0), hp415) _ from ?_)
  refine Ev.step (j := 1158) (s' := ([some (.retAddr 0), some (.ref 0), some (.ref 69), some (.ref 87), some (.int z), a5, a6], [], (m + 0, k + 0), hp415)) rfl rfl ?_
  exact by
   refine Ev.step (j := 1159) (s' := ([some (.retAddr 0), some (.ref 0), some (.ref 69), some (.ref 87), some (.int z), a5, a6], [.ref 69], (m + 0, k + 0), hp415)) rfl rfl ?_
   refine bs_callx (K := kq_X11_rats_6afe8b) [.ref 69] [] rfl (sf_cX ct_X11_rats_6afe8b) Hhp415 rfl rfl rfl (bs_rcv (g := 11) Hhp415 (bs_R.uq Hhp415 (g := 11) rfl) (by decide) rfl) (ls_room (Nat.le_of_ble_eq_true rfl) (by omega) (by omega)) ?_ (sf_S_nil) fun r420 hp419 thp419 Hhp419 fhp419 ahp419 php419 xhp419 => ?_
   · intro q k h
     match q, h with
     | 0, h => cases h; exact bs_jR (bs_R.uq Hhp415 (g := 11) rfl)
     | q + 1, h => cases h
   obtain ⟨z421, rfl⟩ := bs_anI ahp419
   have E422 := lw_keep Hhp415 fhp419 rfl rfl rfl rfl rfl E418
   obtain ⟨ew2, hX2, hC2⟩ := pX Hhp415 (e_rats hX1 hD) xhp419 hC1
   refine (show Ev _ 1162 ([some (.retAddr 0), some (.ref 0), some (.ref 69), some (.ref 87), some (.int z), a5, a6], [.int z421], (m + 0 + 0, k + 0 + 0), hp419) _ from ?_)
   refine Ev.step (j := 1163) (s' := ([some (.retAddr 0), some (.ref 0), some (.ref 69), some (.ref 87), some (.int z), a5, a6], [], (m + 0 + 0, k + 0 + 0), hp419)) rfl rfl ?_
   refine Ev.step (j := 1440) (s' := ([some (.retAddr 0), some (.ref 0), some (.ref 69), some (.ref 87), some (.int z), a5, a6], [], (m + 0 + 0, k + 0 + 0), hp419)) rfl rfl ?_
   exact K _ _ _ _ _ _ Hhp419 ⟨E422, _, hD, hC2, hX2⟩ (by omega) (by omega)
set_option maxRecDepth 100000 in
set_option maxHeartbeats 4000000 in
theorem op_hoarded {xs : Nat → Int32} {n : Nat} {z : Int32} {a5 a6 : Option Value} {m k : Nat} {hp : ab_H} {t : Nat → Nat} {Q : ab_O → Prop} (H : sf_h t hp) (hs : lw_eq hp) (hz0 : 0 ≤ z.toInt) (hz1 : z.toInt + 6 ≤ n) (hn : n ≤ 3072) (hm : m + 21 ≤ 601024) (hk : k + 410 ≤ 7293034) (K : lw_K xs n z m k Q) : Ev (LT xs n) 1166 ([some (.retAddr 0), some (.ref 0), some (.ref 69), some (.ref 87), some (.int z), a5, a6], [], (m, k), hp) Q := by
  obtain ⟨hs, D, hD, hC, hX⟩ := hs
  refine Ev.step (j := 1167) (s' := ([some (.retAddr 0), some (.ref 0), some (.ref 69), some (.ref 87), some (.int z), a5, a6], [.ref 0], (m, k), hp)) rfl rfl ?_
  refine Ev.step (j := 1168) (s' := ([some (.retAddr 0), some (.ref 0), some (.ref 69), some (.ref 87), some (.int z), a5, a6], [.retAddr 0, .ref 0], (m, k), hp)) rfl rfl ?_
  refine Ev.step (j := 1170) (s' := ([some (.retAddr 0), some (.ref 0), some (.ref 69), some (.ref 87), some (.int z), a5, a6], [.int z, .retAddr 0, .ref 0], (m, k), hp)) rfl rfl ?_
  refine bs_lit (k := 1) rfl rfl fun z423 hz423 => ?_
  refine bs_add rfl (by omega) (by omega) fun z424 hz424 => ?_
  refine ls_sld rfl (by omega) (by omega) ?_
  refine (show Ev _ 1173 ([some (.retAddr 0), some (.ref 0), some (.ref 69), some (.ref 87), some (.int z), a5, a6], [.int (xs z424.toNatClampNeg), .ref 0], (m, k), hp) _ from ?_)
  exact by
   refine bs_callx (K := kq_X10_hoarded_0df2a5) [.ref 0, .int (xs z424.toNatClampNeg)] [] rfl (sf_cX ct_X10_hoarded_0df2a5) H rfl rfl rfl (bs_rcv (g := 10) H (bs_R.uq H (g := 10) rfl) (by decide) rfl) (ls_room (Nat.le_of_ble_eq_true rfl) (by omega) (by omega)) ?_ (sf_S_nil) fun r426 hp425 thp425 Hhp425 fhp425 ahp425 php425 xhp425 => ?_
   · intro q k h
     match q, h with
     | 0, h => cases h; exact bs_jR (bs_R.uq H (g := 10) rfl)
     | 1, h => cases h; exact sf_j0
     | q + 2, h => cases h
   obtain ⟨z427, rfl⟩ := bs_anI ahp425
   have E428 := lw_keep H fhp425 rfl rfl rfl rfl rfl hs
   obtain ⟨ew1, hC1, hX1⟩ := pC H (d_hoarded hC hD _) xhp425 hX
   refine (show Ev _ 1176 ([some (.retAddr 0), some (.ref 0), some (.ref 69), some (.ref 87), some (.int z), a5, a6], [.int z427], (m + 0, k + 0), hp425) _ from ?_)
   refine Ev.step (j := 1177) (s' := ([some (.retAddr 0), some (.ref 0), some (.ref 69), some (.ref 87), some (.int z), a5, a6], [], (m + 0, k + 0), hp425)) rfl rfl ?_
   refine Ev.step (j := 1178) (s' := ([some (.retAddr 0), some (.ref 0), some (.ref 69), some (.ref 87), some (.int z), a5, a6], [.ref 69], (m + 0, k + 0), hp425)) rfl rfl ?_
   refine Ev.step (j := 1179) (s' := ([some (.retAddr 0), some (.ref 0), some (.ref 69), some (.ref 87), some (.int z), a5, a6], [.retAddr 0, .ref 69], (m + 0, k + 0), hp425)) rfl rfl ?_
   exact by
    refine Ev.step (j := 1181) (s' := ([some (.retAddr 0), some (.ref 0), some (.ref 69), some (.ref 87), some (.int z), a5, a6], [.int z, .retAddr 0, .ref 69], (m + 0, k + 0), hp425)) rfl rfl ?_
    refine bs_lit (k := 1) rfl rfl fun z429 hz429 => ?_
    refine bs_add rfl (by omega) (by omega) fun z430 hz430 => ?_
    refine ls_sld rfl (by omega) (by omega) ?_
    refine (show Ev _ 1184 ([some (.retAddr 0), some (.ref 0), some (.ref 69), some (.ref 87), some (.int z), a5, a6], [.int (xs z430.toNatClampNeg), .ref 69], (m + 0, k + 0), hp425) _ from ?_)
    refine bs_callx (K := kq_X11_hoarded_3d45d6) [.ref 69, .int (xs z430.toNatClampNeg)] [] rfl (sf_cX ct_X11_hoarded_3d45d6) Hhp425 rfl rfl rfl (bs_rcv (g := 11) Hhp425 (bs_R.uq Hhp425 (g := 11) rfl) (by decide) rfl) (ls_room (Nat.le_of_ble_eq_true rfl) (by omega) (by omega)) ?_ (sf_S_nil) fun r432 hp431 thp431 Hhp431 fhp431 ahp431 php431 xhp431 => ?_
    · intro q k h
      match q, h with
      | 0, h => cases h; exact bs_jR (bs_R.uq Hhp425 (g := 11) rfl)
      | 1, h => cases h; exact sf_j0
      | q + 2, h => cases h
    obtain ⟨z433, rfl⟩ := bs_anI ahp431
    have E434 := lw_keep Hhp425 fhp431 rfl rfl rfl rfl rfl E428
    rw [show z430 = z424 from Int32.toInt_inj.mp (by omega)] at xhp431
    obtain ⟨ew2, hX2, hC2⟩ := pX Hhp425 (e_hoarded hX1 hD _) xhp431 hC1
    refine (show Ev _ 1187 ([some (.retAddr 0), some (.ref 0), some (.ref 69), some (.ref 87), some (.int z), a5, a6], [.int z433], (m + 0 + 0, k + 0 + 0), hp431) _ from ?_)
    exact by
     refine Ev.step (j := 1188) (s' := ([some (.retAddr 0), some (.ref 0), some (.ref 69), some (.ref 87), some (.int z), a5, a6], [], (m + 0 + 0, k + 0 + 0), hp431)) rfl rfl ?_
     refine Ev.step (j := 1440) (s' := ([some (.retAddr 0), some (.ref 0), some (.ref 69), some (.ref 87), some (.int z), a5, a6], [], (m + 0 + 0, k + 0 + 0), hp431)) rfl rfl ?_
     exact K _ _ _ _ _ _ Hhp431 ⟨E434, _, hD, hC2, hX2⟩ (by omega) (by omega)
set_option maxRecDepth 100000 in
set_option maxHeartbeats 4000000 in
theorem op_drawn {xs : Nat → Int32} {n : Nat} {z : Int32} {a5 a6 : Option Value} {m k : Nat} {hp : ab_H} {t : Nat → Nat} {Q : ab_O → Prop} (H : sf_h t hp) (hs : lw_eq hp) (hz0 : 0 ≤ z.toInt) (hz1 : z.toInt + 6 ≤ n) (hn : n ≤ 3072) (hm : m + 21 ≤ 601024) (hk : k + 410 ≤ 7293034) (K : lw_K xs n z m k Q) : Ev (LT xs n) 1191 ([some (.retAddr 0), some (.ref 0), some (.ref 69), some (.ref 87), some (.int z), a5, a6], [], (m, k), hp) Q := by
  obtain ⟨hs, D, hD, hC, hX⟩ := hs
  refine Ev.step (j := 1192) (s' := ([some (.retAddr 0), some (.ref 0), some (.ref 69), some (.ref 87), some (.int z), a5, a6], [.ref 0], (m, k), hp)) rfl rfl ?_
  refine Ev.step (j := 1193) (s' := ([some (.retAddr 0), some (.ref 0), some (.ref 69), some (.ref 87), some (.int z), a5, a6], [.retAddr 0, .ref 0], (m, k), hp)) rfl rfl ?_
  refine Ev.step (j := 1195) (s' := ([some (.retAddr 0), some (.ref 0), some (.ref 69), some (.ref 87), some (.int z), a5, a6], [.int z, .retAddr 0, .ref 0], (m, k), hp)) rfl rfl ?_
  refine bs_lit (k := 1) rfl rfl fun z435 hz435 => ?_
  refine bs_add rfl (by omega) (by omega) fun z436 hz436 => ?_
  refine ls_sld rfl (by omega) (by omega) ?_
  refine (show Ev _ 1198 ([some (.retAddr 0), some (.ref 0), some (.ref 69), some (.ref 87), some (.int z), a5, a6], [.int (xs z436.toNatClampNeg), .ref 0], (m, k), hp) _ from ?_)
  exact by
   refine Ev.step (j := 1199) (s' := ([some (.retAddr 0), some (.ref 0), some (.ref 69), some (.ref 87), some (.int z), a5, a6], [.retAddr 0, .int (xs z436.toNatClampNeg), .ref 0], (m, k), hp)) rfl rfl ?_
   refine Ev.step (j := 1201) (s' := ([some (.retAddr 0), some (.ref 0), some (.ref 69), some (.ref 87), some (.int z), a5, a6], [.int z, .retAddr 0, .int (xs z436.toNatClampNeg), .ref 0], (m, k), hp)) rfl rfl ?_
   refine bs_lit (k := 2) rfl rfl fun z437 hz437 => ?_
   refine bs_add rfl (by omega) (by omega) fun z438 hz438 => ?_
   refine ls_sld rfl (by omega) (by omega) ?_
   refine (show Ev _ 1204 ([some (.retAddr 0), some (.ref 0), some (.ref 69), some (.ref 87), some (.int z), a5, a6], [.int (xs z438.toNatClampNeg), .int (xs z436.toNatClampNeg), .ref 0], (m, k), hp) _ from ?_)
   refine bs_callx (K := kq_X10_drawn_57b5ea) [.ref 0, .int (xs z436.toNatClampNeg), .int (xs z438.toNatClampNeg)] [] rfl (sf_cX ct_X10_drawn_57b5ea) H rfl rfl rfl (bs_rcv (g := 10) H (bs_R.uq H (g := 10) rfl) (by decide) rfl) (ls_room (Nat.le_of_ble_eq_true rfl) (by omega) (by omega)) ?_ (sf_S_nil) fun r440 hp439 thp439 Hhp439 fhp439 ahp439 php439 xhp439 => ?_
   · intro q k h
     match q, h with
     | 0, h => cases h; exact bs_jR (bs_R.uq H (g := 10) rfl)
     | 1, h => cases h; exact sf_j0
     | 2, h => cases h; exact sf_j0
     | q + 3, h => cases h
   obtain ⟨z441, rfl⟩ := bs_anI ahp439
   have E442 := lw_keep H fhp439 rfl rfl rfl rfl rfl hs
   obtain ⟨ew1, hC1, hX1⟩ := pC H (d_drawn hC hD _ _) xhp439 hX
   refine (show Ev _ 1207 ([some (.retAddr 0), some (.ref 0), some (.ref 69), some (.ref 87), some (.int z), a5, a6], [.int z441], (m + 8, k + 138), hp439) _ from ?_)
   exact by
    refine Ev.step (j := 1208) (s' := ([some (.retAddr 0), some (.ref 0), some (.ref 69), some (.ref 87), some (.int z), a5, a6], [], (m + 8, k + 138), hp439)) rfl rfl ?_
    refine Ev.step (j := 1209) (s' := ([some (.retAddr 0), some (.ref 0), some (.ref 69), some (.ref 87), some (.int z), a5, a6], [.ref 69], (m + 8, k + 138), hp439)) rfl rfl ?_
    refine Ev.step (j := 1210) (s' := ([some (.retAddr 0), some (.ref 0), some (.ref 69), some (.ref 87), some (.int z), a5, a6], [.retAddr 0, .ref 69], (m + 8, k + 138), hp439)) rfl rfl ?_
    refine Ev.step (j := 1212) (s' := ([some (.retAddr 0), some (.ref 0), some (.ref 69), some (.ref 87), some (.int z), a5, a6], [.int z, .retAddr 0, .ref 69], (m + 8, k + 138), hp439)) rfl rfl ?_
    refine bs_lit (k := 1) rfl rfl fun z443 hz443 => ?_
    refine bs_add rfl (by omega) (by omega) fun z444 hz444 => ?_
    refine ls_sld rfl (by omega) (by omega) ?_
    refine (show Ev _ 1215 ([some (.retAddr 0), some (.ref 0), some (.ref 69), some (.ref 87), some (.int z), a5, a6], [.int (xs z444.toNatClampNeg), .ref 69], (m + 8, k + 138), hp439) _ from ?_)
    exact by
     refine Ev.step (j := 1216) (s' := ([some (.retAddr 0), some (.ref 0), some (.ref 69), some (.ref 87), some (.int z), a5, a6], [.retAddr 0, .int (xs z444.toNatClampNeg), .ref 69], (m + 8, k + 138), hp439)) rfl rfl ?_
     refine Ev.step (j := 1218) (s' := ([some (.retAddr 0), some (.ref 0), some (.ref 69), some (.ref 87), some (.int z), a5, a6], [.int z, .retAddr 0, .int (xs z444.toNatClampNeg), .ref 69], (m + 8, k + 138), hp439)) rfl rfl ?_
     refine bs_lit (k := 2) rfl rfl fun z445 hz445 => ?_
     refine bs_add rfl (by omega) (by omega) fun z446 hz446 => ?_
     refine ls_sld rfl (by omega) (by omega) ?_
     refine (show Ev _ 1221 ([some (.retAddr 0), some (.ref 0), some (.ref 69), some (.ref 87), some (.int z), a5, a6], [.int (xs z446.toNatClampNeg), .int (xs z444.toNatClampNeg), .ref 69], (m + 8, k + 138), hp439) _ from ?_)
     refine bs_callx (K := kq_X11_drawn_334faa) [.ref 69, .int (xs z444.toNatClampNeg), .int (xs z446.toNatClampNeg)] [] rfl (sf_cX ct_X11_drawn_334faa) Hhp439 rfl rfl rfl (bs_rcv (g := 11) Hhp439 (bs_R.uq Hhp439 (g := 11) rfl) (by decide) rfl) (ls_room (Nat.le_of_ble_eq_true rfl) (by omega) (by omega)) ?_ (sf_S_nil) fun r448 hp447 thp447 Hhp447 fhp447 ahp447 php447 xhp447 => ?_
     · intro q k h
       match q, h with
       | 0, h => cases h; exact bs_jR (bs_R.uq Hhp439 (g := 11) rfl)
       | 1, h => cases h; exact sf_j0
       | 2, h => cases h; exact sf_j0
       | q + 3, h => cases h
     obtain ⟨z449, rfl⟩ := bs_anI ahp447
     have E450 := lw_keep Hhp439 fhp447 rfl rfl rfl rfl rfl E442
     rw [show z444 = z436 from Int32.toInt_inj.mp (by omega)] at xhp447
     rw [show z446 = z438 from Int32.toInt_inj.mp (by omega)] at xhp447
     obtain ⟨ew2, hX2, hC2⟩ := pX Hhp439 (e_drawn hX1 hD _ _) xhp447 hC1
     refine (show Ev _ 1224 ([some (.retAddr 0), some (.ref 0), some (.ref 69), some (.ref 87), some (.int z), a5, a6], [.int z449], (m + 8 + 0, k + 138 + 0), hp447) _ from ?_)
     exact by
      refine Ev.step (j := 1225) (s' := ([some (.retAddr 0), some (.ref 0), some (.ref 69), some (.ref 87), some (.int z), a5, a6], [], (m + 8 + 0, k + 138 + 0), hp447)) rfl rfl ?_
      refine Ev.step (j := 1440) (s' := ([some (.retAddr 0), some (.ref 0), some (.ref 69), some (.ref 87), some (.int z), a5, a6], [], (m + 8 + 0, k + 138 + 0), hp447)) rfl rfl ?_
      exact K _ _ _ _ _ _ Hhp447 ⟨E450, _, (hD.k (INV_dwn hD.2.1 hD.1 hX.T.gb)), hC2, hX2⟩ (by omega) (by omega)
set_option maxRecDepth 100000 in
set_option maxHeartbeats 4000000 in
theorem op_odds {xs : Nat → Int32} {n : Nat} {z : Int32} {a5 a6 : Option Value} {m k : Nat} {hp : ab_H} {t : Nat → Nat} {Q : ab_O → Prop} (H : sf_h t hp) (hs : lw_eq hp) (hz0 : 0 ≤ z.toInt) (hz1 : z.toInt + 6 ≤ n) (hn : n ≤ 3072) (hm : m + 21 ≤ 601024) (hk : k + 410 ≤ 7293034) (K : lw_K xs n z m k Q) : Ev (LT xs n) 1228 ([some (.retAddr 0), some (.ref 0), some (.ref 69), some (.ref 87), some (.int z), a5, a6], [], (m, k), hp) Q := by
  obtain ⟨hs, D, hD, hC, hX⟩ := hs
  refine Ev.step (j := 1229) (s' := ([some (.retAddr 0), some (.ref 0), some (.ref 69), some (.ref 87), some (.int z), a5, a6], [.ref 0], (m, k), hp)) rfl rfl ?_
  refine Ev.step (j := 1230) (s' := ([some (.retAddr 0), some (.ref 0), some (.ref 69), some (.ref 87), some (.int z), a5, a6], [.retAddr 0, .ref 0], (m, k), hp)) rfl rfl ?_
  refine Ev.step (j := 1232) (s' := ([some (.retAddr 0), some (.ref 0), some (.ref 69), some (.ref 87), some (.int z), a5, a6], [.int z, .retAddr 0, .ref 0], (m, k), hp)) rfl rfl ?_
  refine bs_lit (k := 1) rfl rfl fun z451 hz451 => ?_
  refine bs_add rfl (by omega) (by omega) fun z452 hz452 => ?_
  refine ls_sld rfl (by omega) (by omega) ?_
  refine (show Ev _ 1235 ([some (.retAddr 0), some (.ref 0), some (.ref 69), some (.ref 87), some (.int z), a5, a6], [.int (xs z452.toNatClampNeg), .ref 0], (m, k), hp) _ from ?_)
  exact by
   refine Ev.step (j := 1236) (s' := ([some (.retAddr 0), some (.ref 0), some (.ref 69), some (.ref 87), some (.int z), a5, a6], [.retAddr 0, .int (xs z452.toNatClampNeg), .ref 0], (m, k), hp)) rfl rfl ?_
   refine Ev.step (j := 1238) (s' := ([some (.retAddr 0), some (.ref 0), some (.ref 69), some (.ref 87), some (.int z), a5, a6], [.int z, .retAddr 0, .int (xs z452.toNatClampNeg), .ref 0], (m, k), hp)) rfl rfl ?_
   refine bs_lit (k := 2) rfl rfl fun z453 hz453 => ?_
   refine bs_add rfl (by omega) (by omega) fun z454 hz454 => ?_
   refine ls_sld rfl (by omega) (by omega) ?_
   refine (show Ev _ 1241 ([some (.retAddr 0), some (.ref 0), some (.ref 69), some (.ref 87), some (.int z), a5, a6], [.int (xs z454.toNatClampNeg), .int (xs z452.toNatClampNeg), .ref 0], (m, k), hp) _ from ?_)
   refine Ev.step (j := 1242) (s' := ([some (.retAddr 0), some (.ref 0), some (.ref 69), some (.ref 87), some (.int z), a5, a6], [.retAddr 0, .int (xs z454.toNatClampNeg), .int (xs z452.toNatClampNeg), .ref 0], (m, k), hp)) rfl rfl ?_
   refine Ev.step (j := 1244) (s' := ([some (.retAddr 0), some (.ref 0), some (.ref 69), some (.ref 87), some (.int z), a5, a6], [.int z, .retAddr 0, .int (xs z454.toNatClampNeg), .int (xs z452.toNatClampNeg), .ref 0], (m, k), hp)) rfl rfl ?_
   exact by
    refine bs_lit (k := 3) rfl rfl fun z455 hz455 => ?_
    refine bs_add rfl (by omega) (by omega) fun z456 hz456 => ?_
    refine ls_sld rfl (by omega) (by omega) ?_
    refine (show Ev _ 1247 ([some (.retAddr 0), some (.ref 0), some (.ref 69), some (.ref 87), some (.int z), a5, a6], [.int (xs z456.toNatClampNeg), .int (xs z454.toNatClampNeg), .int (xs z452.toNatClampNeg), .ref 0], (m, k), hp) _ from ?_)
    refine bs_callx (K := kq_X10_odds_7e6f69) [.ref 0, .int (xs z452.toNatClampNeg), .int (xs z454.toNatClampNeg), .int (xs z456.toNatClampNeg)] [] rfl (sf_cX ct_X10_odds_7e6f69) H rfl rfl rfl (bs_rcv (g := 10) H (bs_R.uq H (g := 10) rfl) (by decide) rfl) (ls_room (Nat.le_of_ble_eq_true rfl) (by omega) (by omega)) ?_ (sf_S_nil) fun r458 hp457 thp457 Hhp457 fhp457 ahp457 php457 xhp457 => ?_
    · intro q k h
      match q, h with
      | 0, h => cases h; exact bs_jR (bs_R.uq H (g := 10) rfl)
      | 1, h => cases h; exact sf_j0
      | 2, h => cases h; exact sf_j0
      | 3, h => cases h; exact sf_j0
      | q + 4, h => cases h
    obtain ⟨z459, rfl⟩ := bs_anI ahp457
    have E460 := lw_keep H fhp457 rfl rfl rfl rfl rfl hs
    obtain ⟨ew1, hC1, hX1⟩ := pC H (d_odds hC hD _ _ _) xhp457 hX
    refine (show Ev _ 1250 ([some (.retAddr 0), some (.ref 0), some (.ref 69), some (.ref 87), some (.int z), a5, a6], [.int z459], (m + 0, k + 0), hp457) _ from ?_)
    exact by
     refine Ev.step (j := 1251) (s' := ([some (.retAddr 0), some (.ref 0), some (.ref 69), some (.ref 87), some (.int z), a5, a6], [], (m + 0, k + 0), hp457)) rfl rfl ?_
     refine Ev.step (j := 1252) (s' := ([some (.retAddr 0), some (.ref 0), some (.ref 69), some (.ref 87), some (.int z), a5, a6], [.ref 69], (m + 0, k + 0), hp457)) rfl rfl ?_
     refine Ev.step (j := 1253) (s' := ([some (.retAddr 0), some (.ref 0), some (.ref 69), some (.ref 87), some (.int z), a5, a6], [.retAddr 0, .ref 69], (m + 0, k + 0), hp457)) rfl rfl ?_
     refine Ev.step (j := 1255) (s' := ([some (.retAddr 0), some (.ref 0), some (.ref 69), some (.ref 87), some (.int z), a5, a6], [.int z, .retAddr 0, .ref 69], (m + 0, k + 0), hp457)) rfl rfl ?_
     refine bs_lit (k := 1) rfl rfl fun z461 hz461 => ?_
     refine bs_add rfl (by omega) (by omega) fun z462 hz462 => ?_
     refine ls_sld rfl (by omega) (by omega) ?_
     refine (show Ev _ 1258 ([some (.retAddr 0), some (.ref 0), some (.ref 69), some (.ref 87), some (.int z), a5, a6], [.int (xs z462.toNatClampNeg), .ref 69], (m + 0, k + 0), hp457) _ from ?_)
     exact by
      refine Ev.step (j := 1259) (s' := ([some (.retAddr 0), some (.ref 0), some (.ref 69), some (.ref 87), some (.int z), a5, a6], [.retAddr 0, .int (xs z462.toNatClampNeg), .ref 69], (m + 0, k + 0), hp457)) rfl rfl ?_
      refine Ev.step (j := 1261) (s' := ([some (.retAddr 0), some (.ref 0), some (.ref 69), some (.ref 87), some (.int z), a5, a6], [.int z, .retAddr 0, .int (xs z462.toNatClampNeg), .ref 69], (m + 0, k + 0), hp457)) rfl rfl ?_
      refine bs_lit (k := 2) rfl rfl fun z463 hz463 => ?_
      refine bs_add rfl (by omega) (by omega) fun z464 hz464 => ?_
      refine ls_sld rfl (by omega) (by omega) ?_
      refine (show Ev _ 1264 ([some (.retAddr 0), some (.ref 0), some (.ref 69), some (.ref 87), some (.int z), a5, a6], [.int (xs z464.toNatClampNeg), .int (xs z462.toNatClampNeg), .ref 69], (m + 0, k + 0), hp457) _ from ?_)
      refine Ev.step (j := 1265) (s' := ([some (.retAddr 0), some (.ref 0), some (.ref 69), some (.ref 87), some (.int z), a5, a6], [.retAddr 0, .int (xs z464.toNatClampNeg), .int (xs z462.toNatClampNeg), .ref 69], (m + 0, k + 0), hp457)) rfl rfl ?_
      refine Ev.step (j := 1267) (s' := ([some (.retAddr 0), some (.ref 0), some (.ref 69), some (.ref 87), some (.int z), a5, a6], [.int z, .retAddr 0, .int (xs z464.toNatClampNeg), .int (xs z462.toNatClampNeg), .ref 69], (m + 0, k + 0), hp457)) rfl rfl ?_
      exact by
       refine bs_lit (k := 3) rfl rfl fun z465 hz465 => ?_
       refine bs_add rfl (by omega) (by omega) fun z466 hz466 => ?_
       refine ls_sld rfl (by omega) (by omega) ?_
       refine (show Ev _ 1270 ([some (.retAddr 0), some (.ref 0), some (.ref 69), some (.ref 87), some (.int z), a5, a6], [.int (xs z466.toNatClampNeg), .int (xs z464.toNatClampNeg), .int (xs z462.toNatClampNeg), .ref 69], (m + 0, k + 0), hp457) _ from ?_)
       refine bs_callx (K := kq_X11_odds_3518ea) [.ref 69, .int (xs z462.toNatClampNeg), .int (xs z464.toNatClampNeg), .int (xs z466.toNatClampNeg)] [] rfl (sf_cX ct_X11_odds_3518ea) Hhp457 rfl rfl rfl (bs_rcv (g := 11) Hhp457 (bs_R.uq Hhp457 (g := 11) rfl) (by decide) rfl) (ls_room (Nat.le_of_ble_eq_true rfl) (by omega) (by omega)) ?_ (sf_S_nil) fun r468 hp467 thp467 Hhp467 fhp467 ahp467 php467 xhp467 => ?_
       · intro q k h
         match q, h with
         | 0, h => cases h; exact bs_jR (bs_R.uq Hhp457 (g := 11) rfl)
         | 1, h => cases h; exact sf_j0
         | 2, h => cases h; exact sf_j0
         | 3, h => cases h; exact sf_j0
         | q + 4, h => cases h
       obtain ⟨z469, rfl⟩ := bs_anI ahp467
       have E470 := lw_keep Hhp457 fhp467 rfl rfl rfl rfl rfl E460
       rw [show z462 = z452 from Int32.toInt_inj.mp (by omega)] at xhp467
       rw [show z464 = z454 from Int32.toInt_inj.mp (by omega)] at xhp467
       rw [show z466 = z456 from Int32.toInt_inj.mp (by omega)] at xhp467
       obtain ⟨ew2, hX2, hC2⟩ := pX Hhp457 (e_odds hX1 hD _ _ _) xhp467 hC1
       refine (show Ev _ 1273 ([some (.retAddr 0), some (.ref 0), some (.ref 69), some (.ref 87), some (.int z), a5, a6], [.int z469], (m + 0 + 0, k + 0 + 0), hp467) _ from ?_)
       exact by
        refine Ev.step (j := 1274) (s' := ([some (.retAddr 0), some (.ref 0), some (.ref 69), some (.ref 87), some (.int z), a5, a6], [], (m + 0 + 0, k + 0 + 0), hp467)) rfl rfl ?_
        refine Ev.step (j := 1440) (s' := ([some (.retAddr 0), some (.ref 0), some (.ref 69), some (.ref 87), some (.int z), a5, a6], [], (m + 0 + 0, k + 0 + 0), hp467)) rfl rfl ?_
        exact K _ _ _ _ _ _ Hhp467 ⟨E470, _, hD, hC2, hX2⟩ (by omega) (by omega)
set_option maxRecDepth 100000 in
set_option maxHeartbeats 4000000 in
theorem op_log_a {xs : Nat → Int32} {n : Nat} {z : Int32} {a5 a6 : Option Value} {m k : Nat} {hp : ab_H} {t : Nat → Nat} {Q : ab_O → Prop} (H : sf_h t hp) (hs : lw_eq hp) (hz0 : 0 ≤ z.toInt) (hz1 : z.toInt + 6 ≤ n) (hn : n ≤ 3072) (hm : m + 21 ≤ 601024) (hk : k + 410 ≤ 7293034) (h1 : ∀ y : Int32, y.toInt = z.toInt + 1 → 0 ≤ (xs y.toNatClampNeg).toInt ∧ (xs y.toNatClampNeg).toInt ≤ 1) (K : lw_K xs n z m k Q) : Ev (LT xs n) 1277 ([some (.retAddr 0), some (.ref 0), some (.ref 69), some (.ref 87), some (.int z), a5, a6], [], (m, k), hp) Q := by
  obtain ⟨hs, D, hD, hC, hX⟩ := hs
  obtain ⟨tn, htn, hsn, hn2, hbv⟩ := TB_n hs.1
  refine Ev.step (j := 1278) (s' := ([some (.retAddr 0), some (.ref 0), some (.ref 69), some (.ref 87), some (.int z), a5, a6], [.ref 0], (m, k), hp)) rfl rfl ?_
  refine Ev.step (j := 1279) (s' := ([some (.retAddr 0), some (.ref 0), some (.ref 69), some (.ref 87), some (.int z), a5, a6], [.retAddr 0, .ref 0], (m, k), hp)) rfl rfl ?_
  refine Ev.step (j := 1281) (s' := ([some (.retAddr 0), some (.ref 0), some (.ref 69), some (.ref 87), some (.int z), a5, a6], [.int z, .retAddr 0, .ref 0], (m, k), hp)) rfl rfl ?_
  refine bs_lit (k := 1) rfl rfl fun z471 hz471 => ?_
  refine bs_add rfl (by omega) (by omega) fun z472 hz472 => ?_
  refine ls_sld rfl (by omega) (by omega) ?_
  have gz472 := h1 z472 (by omega)
  have ggz472 := n_range (xs z472.toNatClampNeg)
  refine (show Ev _ 1284 ([some (.retAddr 0), some (.ref 0), some (.ref 69), some (.ref 87), some (.int z), a5, a6], [.int (xs z472.toNatClampNeg), .ref 0], (m, k), hp) _ from ?_)
  exact by
   refine bs_callx (K := kq_X10_log_6a20bc) [.ref 0, .int (xs z472.toNatClampNeg)] [] rfl (sf_cX ct_X10_log_6a20bc) H rfl rfl rfl (bs_rcv (g := 10) H (bs_R.uq H (g := 10) rfl) (by decide) rfl) (ls_room (Nat.le_of_ble_eq_true rfl) (by omega) (by omega)) ?_ (sf_S_cons (sf_s1 (x := ((xs z472.toNatClampNeg)).toInt) rfl (by omega) (by omega)) (sf_S_nil)) fun r474 hp473 thp473 Hhp473 fhp473 ahp473 php473 xhp473 => ?_
   · intro q k h
     match q, h with
     | 0, h => cases h; exact bs_jR (bs_R.uq H (g := 10) rfl)
     | 1, h => cases h; exact sf_j0
     | q + 2, h => cases h
   obtain ⟨z475, rfl⟩ := bs_anI ahp473
   obtain ⟨y476, ey476, uy476, wy476⟩ := (php473 _ (List.mem_of_getElem? (i := 0) rfl)).1 rfl
   replace ey476 : sf_rd hp473 1 1 = some y476 := ey476
   replace uy476 : (0 : Int) ≤ y476 := uy476
   replace wy476 : y476 ≤ (0 : Int) := wy476
   have RS1 := RES_fr H fhp473 rfl hs.2
   have hsm : sf_rd hp473 69 2 = some (tn : Int) := (fhp473.2.2.1 _ (bs_R.uq H (g := 11) (p := 69) rfl).1 _ (by rw [(bs_R.uq H (g := 11) (p := 69) rfl).2]; rfl)).trans hn2
   have hb : bv hp473 70 tn = bv hp 2 tn := (bv_same (fun q => (fhp473.2.2.1 _ (bs_R.uq H (g := 131) (p := 70) rfl).1 _ (by rw [(bs_R.uq H (g := 131) (p := 70) rfl).2]; rfl)))).trans hbv
   refine (show Ev _ 1287 ([some (.retAddr 0), some (.ref 0), some (.ref 69), some (.ref 87), some (.int z), a5, a6], [.int z475], (m + 8, k + 138), hp473) _ from ?_)
   exact by
    refine Ev.step (j := 1288) (s' := ([some (.retAddr 0), some (.ref 0), some (.ref 69), some (.ref 87), some (.int z), a5, a6], [], (m + 8, k + 138), hp473)) rfl rfl ?_
    refine Ev.step (j := 1289) (s' := ([some (.retAddr 0), some (.ref 0), some (.ref 69), some (.ref 87), some (.int z), a5, a6], [.ref 69], (m + 8, k + 138), hp473)) rfl rfl ?_
    refine Ev.step (j := 1290) (s' := ([some (.retAddr 0), some (.ref 0), some (.ref 69), some (.ref 87), some (.int z), a5, a6], [.retAddr 0, .ref 69], (m + 8, k + 138), hp473)) rfl rfl ?_
    refine Ev.step (j := 1292) (s' := ([some (.retAddr 0), some (.ref 0), some (.ref 69), some (.ref 87), some (.int z), a5, a6], [.int z, .retAddr 0, .ref 69], (m + 8, k + 138), hp473)) rfl rfl ?_
    refine bs_lit (k := 1) rfl rfl fun z477 hz477 => ?_
    refine bs_add rfl (by omega) (by omega) fun z478 hz478 => ?_
    refine ls_sld rfl (by omega) (by omega) ?_
    have gz478 := h1 z478 (by omega)
    have ggz478 := n_range (xs z478.toNatClampNeg)
    refine (show Ev _ 1295 ([some (.retAddr 0), some (.ref 0), some (.ref 69), some (.ref 87), some (.int z), a5, a6], [.int (xs z478.toNatClampNeg), .ref 69], (m + 8, k + 138), hp473) _ from ?_)
    exact by
     refine bs_callx (K := kq_X11_log_h) [.ref 69, .int (xs z478.toNatClampNeg)] [] rfl (sf_cX ct_X11_log_h) Hhp473 rfl rfl rfl (bs_rcv (g := 11) Hhp473 (bs_R.uq Hhp473 (g := 11) rfl) (by decide) rfl) (ls_room (Nat.le_of_ble_eq_true rfl) (by omega) (by omega)) ?_ (sf_S_cons (sf_s1 (x := ((xs z478.toNatClampNeg)).toInt) rfl (by omega) (by omega)) (sf_S_nil)) fun r480 hp479 thp479 Hhp479 fhp479 ahp479 php479 xhp479 => ?_
     · intro q k h
       match q, h with
       | 0, h => cases h; exact bs_jR (bs_R.uq Hhp473 (g := 11) rfl)
       | 1, h => cases h; exact sf_j0
       | q + 2, h => cases h
     obtain ⟨z481, rfl⟩ := bs_anI ahp479
     obtain ⟨y482, ey482, uy482, wy482⟩ := (php479 _ (List.mem_of_getElem? (i := 0) rfl)).1 rfl
     replace ey482 : sf_rd hp479 69 2 = some y482 := ey482
     replace uy482 : (0 : Int) ≤ y482 := uy482
     replace wy482 : y482 ≤ (0 : Int) := wy482
     have hc2 := (fhp479.2.2.1 _ (bs_R.uq Hhp473 (g := 8) (p := 1) rfl).1 1 (by rw [(bs_R.uq Hhp473 (g := 8) (p := 1) rfl).2]; rfl)).trans ey476
     have E : lw_tb hp479 := ⟨TB_zero (hc2.trans (congrArg some (by omega))) (ey482.trans (congrArg some (by omega))), RES_fr Hhp473 fhp479 rfl RS1⟩
     rw [show z478 = z472 from Int32.toInt_inj.mp (by omega)] at xhp479
     obtain ⟨⟨D2, hD2, hC2, hX2⟩, ef⟩ := lw_log H Hhp473 ce_X8_moveInto_v hD hC hX htn hsn hsm hb xhp473 xhp479
     refine (show Ev _ 1298 ([some (.retAddr 0), some (.ref 0), some (.ref 69), some (.ref 87), some (.int z), a5, a6], [.int z481], (m + 8 + 0, k + 138 + 0), hp479) _ from ?_)
     exact by
      refine Ev.step (j := 1299) (s' := ([some (.retAddr 0), some (.ref 0), some (.ref 69), some (.ref 87), some (.int z), a5, a6], [], (m + 8 + 0, k + 138 + 0), hp479)) rfl rfl ?_
      refine Ev.step (j := 1440) (s' := ([some (.retAddr 0), some (.ref 0), some (.ref 69), some (.ref 87), some (.int z), a5, a6], [], (m + 8 + 0, k + 138 + 0), hp479)) rfl rfl ?_
      exact K _ _ _ _ _ _ Hhp479 ⟨E, D2, hD2, hC2, hX2⟩ (by omega) (by omega)
set_option maxRecDepth 100000 in
set_option maxHeartbeats 4000000 in
theorem op_log_b {xs : Nat → Int32} {n : Nat} {z : Int32} {a5 a6 : Option Value} {m k : Nat} {hp : ab_H} {t : Nat → Nat} {Q : ab_O → Prop} (H : sf_h t hp) (hs : lw_eq hp) (hz0 : 0 ≤ z.toInt) (hz1 : z.toInt + 6 ≤ n) (hn : n ≤ 3072) (hm : m + 21 ≤ 601024) (hk : k + 410 ≤ 7293034) (h1 : ∀ y : Int32, y.toInt = z.toInt + 1 → (xs y.toNatClampNeg).toInt ≤ -1) (K : lw_K xs n z m k Q) : Ev (LT xs n) 1277 ([some (.retAddr 0), some (.ref 0), some (.ref 69), some (.ref 87), some (.int z), a5, a6], [], (m, k), hp) Q := by
  obtain ⟨hs, D, hD, hC, hX⟩ := hs
  obtain ⟨tn, htn, hsn, hn2, hbv⟩ := TB_n hs.1
  refine Ev.step (j := 1278) (s' := ([some (.retAddr 0), some (.ref 0), some (.ref 69), some (.ref 87), some (.int z), a5, a6], [.ref 0], (m, k), hp)) rfl rfl ?_
  refine Ev.step (j := 1279) (s' := ([some (.retAddr 0), some (.ref 0), some (.ref 69), some (.ref 87), some (.int z), a5, a6], [.retAddr 0, .ref 0], (m, k), hp)) rfl rfl ?_
  refine Ev.step (j := 1281) (s' := ([some (.retAddr 0), some (.ref 0), some (.ref 69), some (.ref 87), some (.int z), a5, a6], [.int z, .retAddr 0, .ref 0], (m, k), hp)) rfl rfl ?_
  refine bs_lit (k := 1) rfl rfl fun z483 hz483 => ?_
  refine bs_add rfl (by omega) (by omega) fun z484 hz484 => ?_
  refine ls_sld rfl (by omega) (by omega) ?_
  have gz484 := h1 z484 (by omega)
  have ggz484 := n_range (xs z484.toNatClampNeg)
  refine (show Ev _ 1284 ([some (.retAddr 0), some (.ref 0), some (.ref 69), some (.ref 87), some (.int z), a5, a6], [.int (xs z484.toNatClampNeg), .ref 0], (m, k), hp) _ from ?_)
  exact by
   refine bs_callx (K := kq_X10_log_77e69b) [.ref 0, .int (xs z484.toNatClampNeg)] [] rfl (sf_cX ct_X10_log_77e69b) H rfl rfl rfl (bs_rcv (g := 10) H (bs_R.uq H (g := 10) rfl) (by decide) rfl) (ls_room (Nat.le_of_ble_eq_true rfl) (by omega) (by omega)) ?_ (sf_S_cons (sf_s1 (x := ((xs z484.toNatClampNeg)).toInt) rfl (by omega) (by omega)) (sf_S_nil)) fun r486 hp485 thp485 Hhp485 fhp485 ahp485 php485 xhp485 => ?_
   · intro q k h
     match q, h with
     | 0, h => cases h; exact bs_jR (bs_R.uq H (g := 10) rfl)
     | 1, h => cases h; exact sf_j0
     | q + 2, h => cases h
   obtain ⟨z487, rfl⟩ := bs_anI ahp485
   have E488 := lw_keep H fhp485 rfl rfl rfl rfl rfl hs
   have hsm : sf_rd hp485 69 2 = some (tn : Int) := (fhp485.2.2.1 _ (bs_R.uq H (g := 11) (p := 69) rfl).1 _ (by rw [(bs_R.uq H (g := 11) (p := 69) rfl).2]; rfl)).trans hn2
   have hb : bv hp485 70 tn = bv hp 2 tn := (bv_same (fun q => (fhp485.2.2.1 _ (bs_R.uq H (g := 131) (p := 70) rfl).1 _ (by rw [(bs_R.uq H (g := 131) (p := 70) rfl).2]; rfl)))).trans hbv
   refine (show Ev _ 1287 ([some (.retAddr 0), some (.ref 0), some (.ref 69), some (.ref 87), some (.int z), a5, a6], [.int z487], (m + 8, k + 138), hp485) _ from ?_)
   refine Ev.step (j := 1288) (s' := ([some (.retAddr 0), some (.ref 0), some (.ref 69), some (.ref 87), some (.int z), a5, a6], [], (m + 8, k + 138), hp485)) rfl rfl ?_
   refine Ev.step (j := 1289) (s' := ([some (.retAddr 0), some (.ref 0), some (.ref 69), some (.ref 87), some (.int z), a5, a6], [.ref 69], (m + 8, k + 138), hp485)) rfl rfl ?_
   exact by
    refine Ev.step (j := 1290) (s' := ([some (.retAddr 0), some (.ref 0), some (.ref 69), some (.ref 87), some (.int z), a5, a6], [.retAddr 0, .ref 69], (m + 8, k + 138), hp485)) rfl rfl ?_
    refine Ev.step (j := 1292) (s' := ([some (.retAddr 0), some (.ref 0), some (.ref 69), some (.ref 87), some (.int z), a5, a6], [.int z, .retAddr 0, .ref 69], (m + 8, k + 138), hp485)) rfl rfl ?_
    refine bs_lit (k := 1) rfl rfl fun z489 hz489 => ?_
    refine bs_add rfl (by omega) (by omega) fun z490 hz490 => ?_
    refine ls_sld rfl (by omega) (by omega) ?_
    have gz490 := h1 z490 (by omega)
    have ggz490 := n_range (xs z490.toNatClampNeg)
    refine (show Ev _ 1295 ([some (.retAddr 0), some (.ref 0), some (.ref 69), some (.ref 87), some (.int z), a5, a6], [.int (xs z490.toNatClampNeg), .ref 69], (m + 8, k + 138), hp485) _ from ?_)
    exact by
     refine bs_callx (K := kq_X11_log_lo) [.ref 69, .int (xs z490.toNatClampNeg)] [] rfl (sf_cX ct_X11_log_lo) Hhp485 rfl rfl rfl (bs_rcv (g := 11) Hhp485 (bs_R.uq Hhp485 (g := 11) rfl) (by decide) rfl) (ls_room (Nat.le_of_ble_eq_true rfl) (by omega) (by omega)) ?_ (sf_S_cons (sf_s1 (x := ((xs z490.toNatClampNeg)).toInt) rfl (by omega) (by omega)) (sf_S_nil)) fun r492 hp491 thp491 Hhp491 fhp491 ahp491 php491 xhp491 => ?_
     · intro q k h
       match q, h with
       | 0, h => cases h; exact bs_jR (bs_R.uq Hhp485 (g := 11) rfl)
       | 1, h => cases h; exact sf_j0
       | q + 2, h => cases h
     obtain ⟨z493, rfl⟩ := bs_anI ahp491
     have E494 := lw_keep Hhp485 fhp491 rfl rfl rfl rfl rfl E488
     rw [show z490 = z484 from Int32.toInt_inj.mp (by omega)] at xhp491
     obtain ⟨⟨D2, hD2, hC2, hX2⟩, ef⟩ := lw_log H Hhp485 ce_X8_moveInto_v hD hC hX htn hsn hsm hb xhp485 xhp491
     refine (show Ev _ 1298 ([some (.retAddr 0), some (.ref 0), some (.ref 69), some (.ref 87), some (.int z), a5, a6], [.int z493], (m + 8 + 0, k + 138 + 0), hp491) _ from ?_)
     refine Ev.step (j := 1299) (s' := ([some (.retAddr 0), some (.ref 0), some (.ref 69), some (.ref 87), some (.int z), a5, a6], [], (m + 8 + 0, k + 138 + 0), hp491)) rfl rfl ?_
     refine Ev.step (j := 1440) (s' := ([some (.retAddr 0), some (.ref 0), some (.ref 69), some (.ref 87), some (.int z), a5, a6], [], (m + 8 + 0, k + 138 + 0), hp491)) rfl rfl ?_
     exact K _ _ _ _ _ _ Hhp491 ⟨E494, D2, hD2, hC2, hX2⟩ (by omega) (by omega)
set_option maxRecDepth 100000 in
set_option maxHeartbeats 4000000 in
theorem op_log_c {xs : Nat → Int32} {n : Nat} {z : Int32} {a5 a6 : Option Value} {m k : Nat} {hp : ab_H} {t : Nat → Nat} {Q : ab_O → Prop} (H : sf_h t hp) (hs : lw_eq hp) (hz0 : 0 ≤ z.toInt) (hz1 : z.toInt + 6 ≤ n) (hn : n ≤ 3072) (hm : m + 21 ≤ 601024) (hk : k + 410 ≤ 7293034) (h1 : ∀ y : Int32, y.toInt = z.toInt + 1 → 2 ≤ (xs y.toNatClampNeg).toInt) (K : lw_K xs n z m k Q) : Ev (LT xs n) 1277 ([some (.retAddr 0), some (.ref 0), some (.ref 69), some (.ref 87), some (.int z), a5, a6], [], (m, k), hp) Q := by
  obtain ⟨hs, D, hD, hC, hX⟩ := hs
  obtain ⟨tn, htn, hsn, hn2, hbv⟩ := TB_n hs.1
  refine Ev.step (j := 1278) (s' := ([some (.retAddr 0), some (.ref 0), some (.ref 69), some (.ref 87), some (.int z), a5, a6], [.ref 0], (m, k), hp)) rfl rfl ?_
  refine Ev.step (j := 1279) (s' := ([some (.retAddr 0), some (.ref 0), some (.ref 69), some (.ref 87), some (.int z), a5, a6], [.retAddr 0, .ref 0], (m, k), hp)) rfl rfl ?_
  refine Ev.step (j := 1281) (s' := ([some (.retAddr 0), some (.ref 0), some (.ref 69), some (.ref 87), some (.int z), a5, a6], [.int z, .retAddr 0, .ref 0], (m, k), hp)) rfl rfl ?_
  refine bs_lit (k := 1) rfl rfl fun z495 hz495 => ?_
  refine bs_add rfl (by omega) (by omega) fun z496 hz496 => ?_
  refine ls_sld rfl (by omega) (by omega) ?_
  have gz496 := h1 z496 (by omega)
  have ggz496 := n_range (xs z496.toNatClampNeg)
  refine (show Ev _ 1284 ([some (.retAddr 0), some (.ref 0), some (.ref 69), some (.ref 87), some (.int z), a5, a6], [.int (xs z496.toNatClampNeg), .ref 0], (m, k), hp) _ from ?_)
  exact by
   refine bs_callx (K := kq_X10_log_75923d) [.ref 0, .int (xs z496.toNatClampNeg)] [] rfl (sf_cX ct_X10_log_75923d) H rfl rfl rfl (bs_rcv (g := 10) H (bs_R.uq H (g := 10) rfl) (by decide) rfl) (ls_room (Nat.le_of_ble_eq_true rfl) (by omega) (by omega)) ?_ (sf_S_cons (sf_s1 (x := ((xs z496.toNatClampNeg)).toInt) rfl (by omega) (by omega)) (sf_S_nil)) fun r498 hp497 thp497 Hhp497 fhp497 ahp497 php497 xhp497 => ?_
   · intro q k h
     match q, h with
     | 0, h => cases h; exact bs_jR (bs_R.uq H (g := 10) rfl)
     | 1, h => cases h; exact sf_j0
     | q + 2, h => cases h
   obtain ⟨z499, rfl⟩ := bs_anI ahp497
   have E500 := lw_keep H fhp497 rfl rfl rfl rfl rfl hs
   have hsm : sf_rd hp497 69 2 = some (tn : Int) := (fhp497.2.2.1 _ (bs_R.uq H (g := 11) (p := 69) rfl).1 _ (by rw [(bs_R.uq H (g := 11) (p := 69) rfl).2]; rfl)).trans hn2
   have hb : bv hp497 70 tn = bv hp 2 tn := (bv_same (fun q => (fhp497.2.2.1 _ (bs_R.uq H (g := 131) (p := 70) rfl).1 _ (by rw [(bs_R.uq H (g := 131) (p := 70) rfl).2]; rfl)))).trans hbv
   refine (show Ev _ 1287 ([some (.retAddr 0), some (.ref 0), some (.ref 69), some (.ref 87), some (.int z), a5, a6], [.int z499], (m + 8, k + 138), hp497) _ from ?_)
   refine Ev.step (j := 1288) (s' := ([some (.retAddr 0), some (.ref 0), some (.ref 69), some (.ref 87), some (.int z), a5, a6], [], (m + 8, k + 138), hp497)) rfl rfl ?_
   refine Ev.step (j := 1289) (s' := ([some (.retAddr 0), some (.ref 0), some (.ref 69), some (.ref 87), some (.int z), a5, a6], [.ref 69], (m + 8, k + 138), hp497)) rfl rfl ?_
   exact by
    refine Ev.step (j := 1290) (s' := ([some (.retAddr 0), some (.ref 0), some (.ref 69), some (.ref 87), some (.int z), a5, a6], [.retAddr 0, .ref 69], (m + 8, k + 138), hp497)) rfl rfl ?_
    refine Ev.step (j := 1292) (s' := ([some (.retAddr 0), some (.ref 0), some (.ref 69), some (.ref 87), some (.int z), a5, a6], [.int z, .retAddr 0, .ref 69], (m + 8, k + 138), hp497)) rfl rfl ?_
    refine bs_lit (k := 1) rfl rfl fun z501 hz501 => ?_
    refine bs_add rfl (by omega) (by omega) fun z502 hz502 => ?_
    refine ls_sld rfl (by omega) (by omega) ?_
    have gz502 := h1 z502 (by omega)
    have ggz502 := n_range (xs z502.toNatClampNeg)
    refine (show Ev _ 1295 ([some (.retAddr 0), some (.ref 0), some (.ref 69), some (.ref 87), some (.int z), a5, a6], [.int (xs z502.toNatClampNeg), .ref 69], (m + 8, k + 138), hp497) _ from ?_)
    exact by
     refine bs_callx (K := kq_X11_log_hi) [.ref 69, .int (xs z502.toNatClampNeg)] [] rfl (sf_cX ct_X11_log_hi) Hhp497 rfl rfl rfl (bs_rcv (g := 11) Hhp497 (bs_R.uq Hhp497 (g := 11) rfl) (by decide) rfl) (ls_room (Nat.le_of_ble_eq_true rfl) (by omega) (by omega)) ?_ (sf_S_cons (sf_s1 (x := ((xs z502.toNatClampNeg)).toInt) rfl (by omega) (by omega)) (sf_S_nil)) fun r504 hp503 thp503 Hhp503 fhp503 ahp503 php503 xhp503 => ?_
     · intro q k h
       match q, h with
       | 0, h => cases h; exact bs_jR (bs_R.uq Hhp497 (g := 11) rfl)
       | 1, h => cases h; exact sf_j0
       | q + 2, h => cases h
     obtain ⟨z505, rfl⟩ := bs_anI ahp503
     have E506 := lw_keep Hhp497 fhp503 rfl rfl rfl rfl rfl E500
     rw [show z502 = z496 from Int32.toInt_inj.mp (by omega)] at xhp503
     obtain ⟨⟨D2, hD2, hC2, hX2⟩, ef⟩ := lw_log H Hhp497 ce_X8_moveInto_v hD hC hX htn hsn hsm hb xhp497 xhp503
     refine (show Ev _ 1298 ([some (.retAddr 0), some (.ref 0), some (.ref 69), some (.ref 87), some (.int z), a5, a6], [.int z505], (m + 8 + 0, k + 138 + 0), hp503) _ from ?_)
     refine Ev.step (j := 1299) (s' := ([some (.retAddr 0), some (.ref 0), some (.ref 69), some (.ref 87), some (.int z), a5, a6], [], (m + 8 + 0, k + 138 + 0), hp503)) rfl rfl ?_
     refine Ev.step (j := 1440) (s' := ([some (.retAddr 0), some (.ref 0), some (.ref 69), some (.ref 87), some (.int z), a5, a6], [], (m + 8 + 0, k + 138 + 0), hp503)) rfl rfl ?_
     exact K _ _ _ _ _ _ Hhp503 ⟨E506, D2, hD2, hC2, hX2⟩ (by omega) (by omega)
set_option maxRecDepth 100000 in
set_option maxHeartbeats 4000000 in
theorem op_logged {xs : Nat → Int32} {n : Nat} {z : Int32} {a5 a6 : Option Value} {m k : Nat} {hp : ab_H} {t : Nat → Nat} {Q : ab_O → Prop} (H : sf_h t hp) (hs : lw_eq hp) (hz0 : 0 ≤ z.toInt) (hz1 : z.toInt + 6 ≤ n) (hn : n ≤ 3072) (hm : m + 21 ≤ 601024) (hk : k + 410 ≤ 7293034) (K : lw_K xs n z m k Q) : Ev (LT xs n) 1302 ([some (.retAddr 0), some (.ref 0), some (.ref 69), some (.ref 87), some (.int z), a5, a6], [], (m, k), hp) Q := by
  obtain ⟨hs, D, hD, hC, hX⟩ := hs
  refine Ev.step (j := 1303) (s' := ([some (.retAddr 0), some (.ref 0), some (.ref 69), some (.ref 87), some (.int z), a5, a6], [.ref 0], (m, k), hp)) rfl rfl ?_
  refine Ev.step (j := 1304) (s' := ([some (.retAddr 0), some (.ref 0), some (.ref 69), some (.ref 87), some (.int z), a5, a6], [.retAddr 0, .ref 0], (m, k), hp)) rfl rfl ?_
  refine Ev.step (j := 1306) (s' := ([some (.retAddr 0), some (.ref 0), some (.ref 69), some (.ref 87), some (.int z), a5, a6], [.int z, .retAddr 0, .ref 0], (m, k), hp)) rfl rfl ?_
  refine bs_lit (k := 1) rfl rfl fun z507 hz507 => ?_
  refine bs_add rfl (by omega) (by omega) fun z508 hz508 => ?_
  refine ls_sld rfl (by omega) (by omega) ?_
  refine (show Ev _ 1309 ([some (.retAddr 0), some (.ref 0), some (.ref 69), some (.ref 87), some (.int z), a5, a6], [.int (xs z508.toNatClampNeg), .ref 0], (m, k), hp) _ from ?_)
  exact by
   refine bs_call (K := kq_X10_logged_0df2a5) [.ref 0, .int (xs z508.toNatClampNeg)] [] rfl ct_X10_logged_0df2a5 H rfl rfl rfl (bs_rcv (g := 10) H (bs_R.uq H (g := 10) rfl) (by decide) rfl) (ls_room (Nat.le_of_ble_eq_true rfl) (by omega) (by omega)) ?_ (sf_S_nil) fun r510 hp509 thp509 Hhp509 fhp509 ahp509 php509 => ?_
   · intro q k h
     match q, h with
     | 0, h => cases h; exact bs_jR (bs_R.uq H (g := 10) rfl)
     | 1, h => cases h; exact sf_j0
     | q + 2, h => cases h
   obtain ⟨z511, rfl⟩ := bs_anI ahp509
   have E512 := lw_keep H fhp509 rfl rfl rfl rfl rfl hs
   obtain ⟨hC1, kx1⟩ := CRW (by rfl) H Hhp509 fhp509 hC
   have hX1 := kx1 _ hX
   refine (show Ev _ 1312 ([some (.retAddr 0), some (.ref 0), some (.ref 69), some (.ref 87), some (.int z), a5, a6], [.int z511], (m + 0, k + 0), hp509) _ from ?_)
   refine Ev.step (j := 1313) (s' := ([some (.retAddr 0), some (.ref 0), some (.ref 69), some (.ref 87), some (.int z), a5, a6], [], (m + 0, k + 0), hp509)) rfl rfl ?_
   refine Ev.step (j := 1314) (s' := ([some (.retAddr 0), some (.ref 0), some (.ref 69), some (.ref 87), some (.int z), a5, a6], [.ref 69], (m + 0, k + 0), hp509)) rfl rfl ?_
   exact by
    refine Ev.step (j := 1315) (s' := ([some (.retAddr 0), some (.ref 0), some (.ref 69), some (.ref 87), some (.int z), a5, a6], [.retAddr 0, .ref 69], (m + 0, k + 0), hp509)) rfl rfl ?_
    refine Ev.step (j := 1317) (s' := ([some (.retAddr 0), some (.ref 0), some (.ref 69), some (.ref 87), some (.int z), a5, a6], [.int z, .retAddr 0, .ref 69], (m + 0, k + 0), hp509)) rfl rfl ?_
    refine bs_lit (k := 1) rfl rfl fun z513 hz513 => ?_
    refine bs_add rfl (by omega) (by omega) fun z514 hz514 => ?_
    refine ls_sld rfl (by omega) (by omega) ?_
    refine (show Ev _ 1320 ([some (.retAddr 0), some (.ref 0), some (.ref 69), some (.ref 87), some (.int z), a5, a6], [.int (xs z514.toNatClampNeg), .ref 69], (m + 0, k + 0), hp509) _ from ?_)
    refine bs_call (K := kq_X11_logged_3d45d6) [.ref 69, .int (xs z514.toNatClampNeg)] [] rfl ct_X11_logged_3d45d6 Hhp509 rfl rfl rfl (bs_rcv (g := 11) Hhp509 (bs_R.uq Hhp509 (g := 11) rfl) (by decide) rfl) (ls_room (Nat.le_of_ble_eq_true rfl) (by omega) (by omega)) ?_ (sf_S_nil) fun r516 hp515 thp515 Hhp515 fhp515 ahp515 php515 => ?_
    · intro q k h
      match q, h with
      | 0, h => cases h; exact bs_jR (bs_R.uq Hhp509 (g := 11) rfl)
      | 1, h => cases h; exact sf_j0
      | q + 2, h => cases h
    obtain ⟨z517, rfl⟩ := bs_anI ahp515
    have E518 := lw_keep Hhp509 fhp515 rfl rfl rfl rfl rfl E512
    obtain ⟨hX2, kc2⟩ := XRW (by rfl) (by rfl) Hhp509 Hhp515 fhp515 hC1.c hX1
    have hC2 := kc2 _ hC1
    refine (show Ev _ 1323 ([some (.retAddr 0), some (.ref 0), some (.ref 69), some (.ref 87), some (.int z), a5, a6], [.int z517], (m + 0 + 0, k + 0 + 0), hp515) _ from ?_)
    exact by
     refine Ev.step (j := 1324) (s' := ([some (.retAddr 0), some (.ref 0), some (.ref 69), some (.ref 87), some (.int z), a5, a6], [], (m + 0 + 0, k + 0 + 0), hp515)) rfl rfl ?_
     refine Ev.step (j := 1440) (s' := ([some (.retAddr 0), some (.ref 0), some (.ref 69), some (.ref 87), some (.int z), a5, a6], [], (m + 0 + 0, k + 0 + 0), hp515)) rfl rfl ?_
     exact K _ _ _ _ _ _ Hhp515 ⟨E518, D, hD, hC2, hX2⟩ (by omega) (by omega)
set_option maxRecDepth 100000 in
set_option maxHeartbeats 4000000 in
theorem op_sentence {xs : Nat → Int32} {n : Nat} {z : Int32} {a5 a6 : Option Value} {m k : Nat} {hp : ab_H} {t : Nat → Nat} {Q : ab_O → Prop} (H : sf_h t hp) (hs : lw_eq hp) (hz0 : 0 ≤ z.toInt) (hz1 : z.toInt + 6 ≤ n) (hn : n ≤ 3072) (hm : m + 21 ≤ 601024) (hk : k + 410 ≤ 7293034) (K : lw_K xs n z m k Q) : Ev (LT xs n) 1327 ([some (.retAddr 0), some (.ref 0), some (.ref 69), some (.ref 87), some (.int z), a5, a6], [], (m, k), hp) Q := by
  obtain ⟨hs, D, hD, hC, hX⟩ := hs
  obtain ⟨tn, htn, hsn, hn2, hbv⟩ := TB_n hs.1
  refine Ev.step (j := 1328) (s' := ([some (.retAddr 0), some (.ref 0), some (.ref 69), some (.ref 87), some (.int z), a5, a6], [.ref 0], (m, k), hp)) rfl rfl ?_
  refine bs_callx (K := kq_X10_sentence_4c18a7) [.ref 0] [] rfl (sf_cX ct_X10_sentence_4c18a7) H rfl rfl rfl (bs_rcv (g := 10) H (bs_R.uq H (g := 10) rfl) (by decide) rfl) (ls_room (Nat.le_of_ble_eq_true rfl) (by omega) (by omega)) ?_ (sf_S_nil) fun r520 hp519 thp519 Hhp519 fhp519 ahp519 php519 xhp519 => ?_
  · intro q k h
    match q, h with
    | 0, h => cases h; exact bs_jR (bs_R.uq H (g := 10) rfl)
    | q + 1, h => cases h
  obtain ⟨z521, rfl⟩ := bs_anI ahp519
  obtain ⟨y522, ey522, uy522, wy522⟩ := (php519 _ (List.mem_of_getElem? (i := 0) rfl)).1 rfl
  replace ey522 : sf_rd hp519 1 1 = some y522 := ey522
  replace uy522 : (0 : Int) ≤ y522 := uy522
  replace wy522 : y522 ≤ (0 : Int) := wy522
  have RS1 := RES_fr H fhp519 rfl hs.2
  have hsm : sf_rd hp519 69 2 = some (tn : Int) := (fhp519.2.2.1 _ (bs_R.uq H (g := 11) (p := 69) rfl).1 _ (by rw [(bs_R.uq H (g := 11) (p := 69) rfl).2]; rfl)).trans hn2
  have hb : bv hp519 70 tn = bv hp 2 tn := (bv_same (fun q => (fhp519.2.2.1 _ (bs_R.uq H (g := 131) (p := 70) rfl).1 _ (by rw [(bs_R.uq H (g := 131) (p := 70) rfl).2]; rfl)))).trans hbv
  obtain ⟨-, -, hC1, kx1⟩ := d_sentence H ce_X8_moveInto_v hsn hC _ xhp519
  have hX1 := kx1 _ hX
  refine (show Ev _ 1331 ([some (.retAddr 0), some (.ref 0), some (.ref 69), some (.ref 87), some (.int z), a5, a6], [.int z521], (m + 0, k + 0), hp519) _ from ?_)
  exact by
   refine Ev.step (j := 1332) (s' := ([some (.retAddr 0), some (.ref 0), some (.ref 69), some (.ref 87), some (.int z), a5, a6], [.ref 69, .int z521], (m + 0, k + 0), hp519)) rfl rfl ?_
   refine bs_callx (K := kq_X11_sentence_h) [.ref 69] [.int z521] rfl (sf_cX ct_X11_sentence_h) Hhp519 rfl rfl rfl (bs_rcv (g := 11) Hhp519 (bs_R.uq Hhp519 (g := 11) rfl) (by decide) rfl) (ls_room (Nat.le_of_ble_eq_true rfl) (by omega) (by omega)) ?_ (sf_S_nil) fun r524 hp523 thp523 Hhp523 fhp523 ahp523 php523 xhp523 => ?_
   · intro q k h
     match q, h with
     | 0, h => cases h; exact bs_jR (bs_R.uq Hhp519 (g := 11) rfl)
     | q + 1, h => cases h
   obtain ⟨z525, rfl⟩ := bs_anI ahp523
   obtain ⟨y526, ey526, uy526, wy526⟩ := (php523 _ (List.mem_of_getElem? (i := 0) rfl)).1 rfl
   replace ey526 : sf_rd hp523 69 2 = some y526 := ey526
   replace uy526 : (0 : Int) ≤ y526 := uy526
   replace wy526 : y526 ≤ (0 : Int) := wy526
   have hc2 := (fhp523.2.2.1 _ (bs_R.uq Hhp519 (g := 8) (p := 1) rfl).1 1 (by rw [(bs_R.uq Hhp519 (g := 8) (p := 1) rfl).2]; rfl)).trans ey522
   have E : lw_tb hp523 := ⟨TB_zero (hc2.trans (congrArg some (by omega))) (ey526.trans (congrArg some (by omega))), RES_fr Hhp519 fhp523 rfl RS1⟩
   obtain ⟨hX2, kc2⟩ := XRS Hhp519 Hhp523 fhp523 hC1.c hX1
   have hC2 := kc2 _ hC1
   have es := lw_sen H Hhp519 ce_X8_moveInto_v hC hX1 htn hsn hsm hb xhp519 xhp523
   refine (show Ev _ 1335 ([some (.retAddr 0), some (.ref 0), some (.ref 69), some (.ref 87), some (.int z), a5, a6], [.int z525, .int z521], (m + 0 + 0, k + 0 + 0), hp523) _ from ?_)
   have qz := congrArg Int32.toInt (Value.int.inj (Option.some.inj es.1))
   refine bs_eq rfl (fun c => ?_) (fun c => absurd (by omega) c)
   exact K _ _ _ _ _ _ Hhp523 ⟨E, D, hD, hC2, hX2⟩ (by omega) (by omega)
set_option maxRecDepth 100000 in
set_option maxHeartbeats 4000000 in
theorem op_said {xs : Nat → Int32} {n : Nat} {z : Int32} {a5 a6 : Option Value} {m k : Nat} {hp : ab_H} {t : Nat → Nat} {Q : ab_O → Prop} (H : sf_h t hp) (hs : lw_eq hp) (hz0 : 0 ≤ z.toInt) (hz1 : z.toInt + 6 ≤ n) (hn : n ≤ 3072) (hm : m + 21 ≤ 601024) (hk : k + 410 ≤ 7293034) (K : lw_K xs n z m k Q) : Ev (LT xs n) 1340 ([some (.retAddr 0), some (.ref 0), some (.ref 69), some (.ref 87), some (.int z), a5, a6], [], (m, k), hp) Q := by
  obtain ⟨hs, D, hD, hC, hX⟩ := hs
  refine Ev.step (j := 1341) (s' := ([some (.retAddr 0), some (.ref 0), some (.ref 69), some (.ref 87), some (.int z), a5, a6], [.ref 0], (m, k), hp)) rfl rfl ?_
  refine Ev.step (j := 1342) (s' := ([some (.retAddr 0), some (.ref 0), some (.ref 69), some (.ref 87), some (.int z), a5, a6], [.retAddr 0, .ref 0], (m, k), hp)) rfl rfl ?_
  refine Ev.step (j := 1344) (s' := ([some (.retAddr 0), some (.ref 0), some (.ref 69), some (.ref 87), some (.int z), a5, a6], [.int z, .retAddr 0, .ref 0], (m, k), hp)) rfl rfl ?_
  refine bs_lit (k := 1) rfl rfl fun z527 hz527 => ?_
  refine bs_add rfl (by omega) (by omega) fun z528 hz528 => ?_
  refine ls_sld rfl (by omega) (by omega) ?_
  refine (show Ev _ 1347 ([some (.retAddr 0), some (.ref 0), some (.ref 69), some (.ref 87), some (.int z), a5, a6], [.int (xs z528.toNatClampNeg), .ref 0], (m, k), hp) _ from ?_)
  exact by
   refine bs_call (K := kq_X10_said_0df2a5) [.ref 0, .int (xs z528.toNatClampNeg)] [] rfl ct_X10_said_0df2a5 H rfl rfl rfl (bs_rcv (g := 10) H (bs_R.uq H (g := 10) rfl) (by decide) rfl) (ls_room (Nat.le_of_ble_eq_true rfl) (by omega) (by omega)) ?_ (sf_S_nil) fun r530 hp529 thp529 Hhp529 fhp529 ahp529 php529 => ?_
   · intro q k h
     match q, h with
     | 0, h => cases h; exact bs_jR (bs_R.uq H (g := 10) rfl)
     | 1, h => cases h; exact sf_j0
     | q + 2, h => cases h
   obtain ⟨z531, rfl⟩ := bs_anI ahp529
   have E532 := lw_keep H fhp529 rfl rfl rfl rfl rfl hs
   obtain ⟨hC1, kx1⟩ := CRW (by rfl) H Hhp529 fhp529 hC
   have hX1 := kx1 _ hX
   refine (show Ev _ 1350 ([some (.retAddr 0), some (.ref 0), some (.ref 69), some (.ref 87), some (.int z), a5, a6], [.int z531], (m + 0, k + 0), hp529) _ from ?_)
   refine Ev.step (j := 1351) (s' := ([some (.retAddr 0), some (.ref 0), some (.ref 69), some (.ref 87), some (.int z), a5, a6], [], (m + 0, k + 0), hp529)) rfl rfl ?_
   refine Ev.step (j := 1352) (s' := ([some (.retAddr 0), some (.ref 0), some (.ref 69), some (.ref 87), some (.int z), a5, a6], [.ref 69], (m + 0, k + 0), hp529)) rfl rfl ?_
   exact by
    refine Ev.step (j := 1353) (s' := ([some (.retAddr 0), some (.ref 0), some (.ref 69), some (.ref 87), some (.int z), a5, a6], [.retAddr 0, .ref 69], (m + 0, k + 0), hp529)) rfl rfl ?_
    refine Ev.step (j := 1355) (s' := ([some (.retAddr 0), some (.ref 0), some (.ref 69), some (.ref 87), some (.int z), a5, a6], [.int z, .retAddr 0, .ref 69], (m + 0, k + 0), hp529)) rfl rfl ?_
    refine bs_lit (k := 1) rfl rfl fun z533 hz533 => ?_
    refine bs_add rfl (by omega) (by omega) fun z534 hz534 => ?_
    refine ls_sld rfl (by omega) (by omega) ?_
    refine (show Ev _ 1358 ([some (.retAddr 0), some (.ref 0), some (.ref 69), some (.ref 87), some (.int z), a5, a6], [.int (xs z534.toNatClampNeg), .ref 69], (m + 0, k + 0), hp529) _ from ?_)
    refine bs_call (K := kq_X11_said_3d45d6) [.ref 69, .int (xs z534.toNatClampNeg)] [] rfl ct_X11_said_3d45d6 Hhp529 rfl rfl rfl (bs_rcv (g := 11) Hhp529 (bs_R.uq Hhp529 (g := 11) rfl) (by decide) rfl) (ls_room (Nat.le_of_ble_eq_true rfl) (by omega) (by omega)) ?_ (sf_S_nil) fun r536 hp535 thp535 Hhp535 fhp535 ahp535 php535 => ?_
    · intro q k h
      match q, h with
      | 0, h => cases h; exact bs_jR (bs_R.uq Hhp529 (g := 11) rfl)
      | 1, h => cases h; exact sf_j0
      | q + 2, h => cases h
    obtain ⟨z537, rfl⟩ := bs_anI ahp535
    have E538 := lw_keep Hhp529 fhp535 rfl rfl rfl rfl rfl E532
    obtain ⟨hX2, kc2⟩ := XRW (by rfl) (by rfl) Hhp529 Hhp535 fhp535 hC1.c hX1
    have hC2 := kc2 _ hC1
    refine (show Ev _ 1361 ([some (.retAddr 0), some (.ref 0), some (.ref 69), some (.ref 87), some (.int z), a5, a6], [.int z537], (m + 0 + 0, k + 0 + 0), hp535) _ from ?_)
    exact by
     refine Ev.step (j := 1362) (s' := ([some (.retAddr 0), some (.ref 0), some (.ref 69), some (.ref 87), some (.int z), a5, a6], [], (m + 0 + 0, k + 0 + 0), hp535)) rfl rfl ?_
     refine Ev.step (j := 1440) (s' := ([some (.retAddr 0), some (.ref 0), some (.ref 69), some (.ref 87), some (.int z), a5, a6], [], (m + 0 + 0, k + 0 + 0), hp535)) rfl rfl ?_
     exact K _ _ _ _ _ _ Hhp535 ⟨E538, D, hD, hC2, hX2⟩ (by omega) (by omega)
set_option maxRecDepth 100000 in
set_option maxHeartbeats 4000000 in
theorem op_image {xs : Nat → Int32} {n : Nat} {z : Int32} {a5 a6 : Option Value} {m k : Nat} {hp : ab_H} {t : Nat → Nat} {Q : ab_O → Prop} (H : sf_h t hp) (hs : lw_eq hp) (hz0 : 0 ≤ z.toInt) (hz1 : z.toInt + 6 ≤ n) (hn : n ≤ 3072) (hm : m + 21 ≤ 601024) (hk : k + 410 ≤ 7293034) (K : lw_K xs n z m k Q) : Ev (LT xs n) 1365 ([some (.retAddr 0), some (.ref 0), some (.ref 69), some (.ref 87), some (.int z), a5, a6], [], (m, k), hp) Q := by
  obtain ⟨hs, D, hD, hC, hX⟩ := hs
  refine Ev.step (j := 1366) (s' := ([some (.retAddr 0), some (.ref 0), some (.ref 69), some (.ref 87), some (.int z), a5, a6], [.ref 0], (m, k), hp)) rfl rfl ?_
  refine Ev.step (j := 1367) (s' := ([some (.retAddr 0), some (.ref 0), some (.ref 69), some (.ref 87), some (.int z), a5, a6], [.retAddr 0, .ref 0], (m, k), hp)) rfl rfl ?_
  refine Ev.step (j := 1369) (s' := ([some (.retAddr 0), some (.ref 0), some (.ref 69), some (.ref 87), some (.int z), a5, a6], [.int z, .retAddr 0, .ref 0], (m, k), hp)) rfl rfl ?_
  refine bs_lit (k := 1) rfl rfl fun z539 hz539 => ?_
  refine bs_add rfl (by omega) (by omega) fun z540 hz540 => ?_
  refine ls_sld rfl (by omega) (by omega) ?_
  refine (show Ev _ 1372 ([some (.retAddr 0), some (.ref 0), some (.ref 69), some (.ref 87), some (.int z), a5, a6], [.int (xs z540.toNatClampNeg), .ref 0], (m, k), hp) _ from ?_)
  exact by
   refine bs_callx (K := kq_X10_image_h) [.ref 0, .int (xs z540.toNatClampNeg)] [] rfl (sf_cX ct_X10_image_h) H rfl rfl rfl (bs_rcv (g := 10) H (bs_R.uq H (g := 10) rfl) (by decide) rfl) (ls_room (Nat.le_of_ble_eq_true rfl) (by omega) (by omega)) ?_ (sf_S_nil) fun r542 hp541 thp541 Hhp541 fhp541 ahp541 php541 xhp541 => ?_
   · intro q k h
     match q, h with
     | 0, h => cases h; exact bs_jR (bs_R.uq H (g := 10) rfl)
     | 1, h => cases h; exact sf_j0
     | q + 2, h => cases h
   obtain ⟨z543, rfl⟩ := bs_anI ahp541
   have E544 := lw_keep H fhp541 rfl rfl rfl rfl rfl hs
   obtain ⟨ew1, hC1, hX1⟩ := pC H (d_image hC _) xhp541 hX
   refine (show Ev _ 1375 ([some (.retAddr 0), some (.ref 0), some (.ref 69), some (.ref 87), some (.int z), a5, a6], [.int z543], (m + 21, k + 410), hp541) _ from ?_)
   refine Ev.step (j := 1376) (s' := ([some (.retAddr 0), some (.ref 0), some (.ref 69), some (.ref 87), some (.int z), a5, a6], [], (m + 21, k + 410), hp541)) rfl rfl ?_
   refine Ev.step (j := 1377) (s' := ([some (.retAddr 0), some (.ref 0), some (.ref 69), some (.ref 87), some (.int z), a5, a6], [.ref 69], (m + 21, k + 410), hp541)) rfl rfl ?_
   refine Ev.step (j := 1378) (s' := ([some (.retAddr 0), some (.ref 0), some (.ref 69), some (.ref 87), some (.int z), a5, a6], [.retAddr 0, .ref 69], (m + 21, k + 410), hp541)) rfl rfl ?_
   exact by
    refine Ev.step (j := 1380) (s' := ([some (.retAddr 0), some (.ref 0), some (.ref 69), some (.ref 87), some (.int z), a5, a6], [.int z, .retAddr 0, .ref 69], (m + 21, k + 410), hp541)) rfl rfl ?_
    refine bs_lit (k := 1) rfl rfl fun z545 hz545 => ?_
    refine bs_add rfl (by omega) (by omega) fun z546 hz546 => ?_
    refine ls_sld rfl (by omega) (by omega) ?_
    refine (show Ev _ 1383 ([some (.retAddr 0), some (.ref 0), some (.ref 69), some (.ref 87), some (.int z), a5, a6], [.int (xs z546.toNatClampNeg), .ref 69], (m + 21, k + 410), hp541) _ from ?_)
    refine bs_callx (K := kq_X11_image_h) [.ref 69, .int (xs z546.toNatClampNeg)] [] rfl (sf_cX ct_X11_image_h) Hhp541 rfl rfl rfl (bs_rcv (g := 11) Hhp541 (bs_R.uq Hhp541 (g := 11) rfl) (by decide) rfl) (ls_room (Nat.le_of_ble_eq_true rfl) (by omega) (by omega)) ?_ (sf_S_nil) fun r548 hp547 thp547 Hhp547 fhp547 ahp547 php547 xhp547 => ?_
    · intro q k h
      match q, h with
      | 0, h => cases h; exact bs_jR (bs_R.uq Hhp541 (g := 11) rfl)
      | 1, h => cases h; exact sf_j0
      | q + 2, h => cases h
    obtain ⟨z549, rfl⟩ := bs_anI ahp547
    have E550 := lw_keep Hhp541 fhp547 rfl rfl rfl rfl rfl E544
    rw [show z546 = z540 from Int32.toInt_inj.mp (by omega)] at xhp547
    obtain ⟨ew2, hX2, hC2⟩ := pX Hhp541 (e_image hX1 _) xhp547 hC1
    refine (show Ev _ 1386 ([some (.retAddr 0), some (.ref 0), some (.ref 69), some (.ref 87), some (.int z), a5, a6], [.int z549], (m + 21 + 0, k + 410 + 0), hp547) _ from ?_)
    exact by
     refine Ev.step (j := 1387) (s' := ([some (.retAddr 0), some (.ref 0), some (.ref 69), some (.ref 87), some (.int z), a5, a6], [], (m + 21 + 0, k + 410 + 0), hp547)) rfl rfl ?_
     refine Ev.step (j := 1440) (s' := ([some (.retAddr 0), some (.ref 0), some (.ref 69), some (.ref 87), some (.int z), a5, a6], [], (m + 21 + 0, k + 410 + 0), hp547)) rfl rfl ?_
     exact K _ _ _ _ _ _ Hhp547 ⟨E550, _, hD.imo, hC2, hX2⟩ (by omega) (by omega)
set_option maxRecDepth 100000 in
set_option maxHeartbeats 4000000 in
theorem op_restore {xs : Nat → Int32} {n : Nat} {z : Int32} {a5 a6 : Option Value} {m k : Nat} {hp : ab_H} {t : Nat → Nat} {Q : ab_O → Prop} (H : sf_h t hp) (hs : lw_eq hp) (hz0 : 0 ≤ z.toInt) (hz1 : z.toInt + 6 ≤ n) (hn : n ≤ 3072) (hm : m + 21 ≤ 601024) (hk : k + 410 ≤ 7293034) (K : lw_K xs n z m k Q) : Ev (LT xs n) 1390 ([some (.retAddr 0), some (.ref 0), some (.ref 69), some (.ref 87), some (.int z), a5, a6], [], (m, k), hp) Q := by
  obtain ⟨hs, D, hD, hC, hX⟩ := hs
  refine Ev.step (j := 1391) (s' := ([some (.retAddr 0), some (.ref 0), some (.ref 69), some (.ref 87), some (.int z), a5, a6], [.ref 0], (m, k), hp)) rfl rfl ?_
  refine Ev.step (j := 1392) (s' := ([some (.retAddr 0), some (.ref 0), some (.ref 69), some (.ref 87), some (.int z), a5, a6], [.retAddr 0, .ref 0], (m, k), hp)) rfl rfl ?_
  refine Ev.step (j := 1394) (s' := ([some (.retAddr 0), some (.ref 0), some (.ref 69), some (.ref 87), some (.int z), a5, a6], [.int z, .retAddr 0, .ref 0], (m, k), hp)) rfl rfl ?_
  refine bs_lit (k := 1) rfl rfl fun z551 hz551 => ?_
  refine bs_add rfl (by omega) (by omega) fun z552 hz552 => ?_
  refine ls_sld rfl (by omega) (by omega) ?_
  refine (show Ev _ 1397 ([some (.retAddr 0), some (.ref 0), some (.ref 69), some (.ref 87), some (.int z), a5, a6], [.int (xs z552.toNatClampNeg), .ref 0], (m, k), hp) _ from ?_)
  exact by
   refine bs_callx (K := kq_X10_restore_h) [.ref 0, .int (xs z552.toNatClampNeg)] [] rfl (sf_cX ct_X10_restore_h) H rfl rfl rfl (bs_rcv (g := 10) H (bs_R.uq H (g := 10) rfl) (by decide) rfl) (ls_room (Nat.le_of_ble_eq_true rfl) (by omega) (by omega)) ?_ (sf_S_nil) fun r554 hp553 thp553 Hhp553 fhp553 ahp553 php553 xhp553 => ?_
   · intro q k h
     match q, h with
     | 0, h => cases h; exact bs_jR (bs_R.uq H (g := 10) rfl)
     | 1, h => cases h; exact sf_j0
     | q + 2, h => cases h
   obtain ⟨z555, rfl⟩ := bs_anI ahp553
   have E556 := lw_keep H fhp553 rfl rfl rfl rfl rfl hs
   obtain ⟨ew1, hC1, hX1⟩ := pC H (d_restore hC _) xhp553 hX
   refine (show Ev _ 1400 ([some (.retAddr 0), some (.ref 0), some (.ref 69), some (.ref 87), some (.int z), a5, a6], [.int z555], (m + 0, k + 0), hp553) _ from ?_)
   refine Ev.step (j := 1401) (s' := ([some (.retAddr 0), some (.ref 0), some (.ref 69), some (.ref 87), some (.int z), a5, a6], [], (m + 0, k + 0), hp553)) rfl rfl ?_
   refine Ev.step (j := 1402) (s' := ([some (.retAddr 0), some (.ref 0), some (.ref 69), some (.ref 87), some (.int z), a5, a6], [.ref 69], (m + 0, k + 0), hp553)) rfl rfl ?_
   refine Ev.step (j := 1403) (s' := ([some (.retAddr 0), some (.ref 0), some (.ref 69), some (.ref 87), some (.int z), a5, a6], [.retAddr 0, .ref 69], (m + 0, k + 0), hp553)) rfl rfl ?_
   exact by
    refine Ev.step (j := 1405) (s' := ([some (.retAddr 0), some (.ref 0), some (.ref 69), some (.ref 87), some (.int z), a5, a6], [.int z, .retAddr 0, .ref 69], (m + 0, k + 0), hp553)) rfl rfl ?_
    refine bs_lit (k := 1) rfl rfl fun z557 hz557 => ?_
    refine bs_add rfl (by omega) (by omega) fun z558 hz558 => ?_
    refine ls_sld rfl (by omega) (by omega) ?_
    refine (show Ev _ 1408 ([some (.retAddr 0), some (.ref 0), some (.ref 69), some (.ref 87), some (.int z), a5, a6], [.int (xs z558.toNatClampNeg), .ref 69], (m + 0, k + 0), hp553) _ from ?_)
    refine bs_callx (K := kq_X11_restore_h) [.ref 69, .int (xs z558.toNatClampNeg)] [] rfl (sf_cX ct_X11_restore_h) Hhp553 rfl rfl rfl (bs_rcv (g := 11) Hhp553 (bs_R.uq Hhp553 (g := 11) rfl) (by decide) rfl) (ls_room (Nat.le_of_ble_eq_true rfl) (by omega) (by omega)) ?_ (sf_S_nil) fun r560 hp559 thp559 Hhp559 fhp559 ahp559 php559 xhp559 => ?_
    · intro q k h
      match q, h with
      | 0, h => cases h; exact bs_jR (bs_R.uq Hhp553 (g := 11) rfl)
      | 1, h => cases h; exact sf_j0
      | q + 2, h => cases h
    obtain ⟨z561, rfl⟩ := bs_anI ahp559
    have E562 := lw_keep Hhp553 fhp559 rfl rfl rfl rfl rfl E556
    rw [show z558 = z552 from Int32.toInt_inj.mp (by omega)] at xhp559
    obtain ⟨ew2, hX2, hC2⟩ := pX Hhp553 (e_restore hX1 _) xhp559 hC1
    refine (show Ev _ 1411 ([some (.retAddr 0), some (.ref 0), some (.ref 69), some (.ref 87), some (.int z), a5, a6], [.int z561], (m + 0 + 0, k + 0 + 0), hp559) _ from ?_)
    exact by
     refine Ev.step (j := 1412) (s' := ([some (.retAddr 0), some (.ref 0), some (.ref 69), some (.ref 87), some (.int z), a5, a6], [], (m + 0 + 0, k + 0 + 0), hp559)) rfl rfl ?_
     refine Ev.step (j := 1440) (s' := ([some (.retAddr 0), some (.ref 0), some (.ref 69), some (.ref 87), some (.int z), a5, a6], [], (m + 0 + 0, k + 0 + 0), hp559)) rfl rfl ?_
     exact K _ _ _ _ _ _ Hhp559 ⟨E562, _, hD.rso, hC2, hX2⟩ (by omega) (by omega)
set_option maxRecDepth 100000 in
set_option maxHeartbeats 4000000 in
theorem op_count {xs : Nat → Int32} {n : Nat} {z : Int32} {a5 a6 : Option Value} {m k : Nat} {hp : ab_H} {t : Nat → Nat} {Q : ab_O → Prop} (H : sf_h t hp) (hs : lw_eq hp) (hz0 : 0 ≤ z.toInt) (hz1 : z.toInt + 6 ≤ n) (hn : n ≤ 3072) (hm : m + 21 ≤ 601024) (hk : k + 410 ≤ 7293034) (K : lw_K xs n z m k Q) : Ev (LT xs n) 1415 ([some (.retAddr 0), some (.ref 0), some (.ref 69), some (.ref 87), some (.int z), a5, a6], [], (m, k), hp) Q := by
  obtain ⟨hs, D, hD, hC, hX⟩ := hs
  obtain ⟨tn, htn, hsn, hn2, hbv⟩ := TB_n hs.1
  refine Ev.step (j := 1416) (s' := ([some (.retAddr 0), some (.ref 0), some (.ref 69), some (.ref 87), some (.int z), a5, a6], [.ref 0], (m, k), hp)) rfl rfl ?_
  refine Ev.step (j := 1417) (s' := ([some (.retAddr 0), some (.ref 0), some (.ref 69), some (.ref 87), some (.int z), a5, a6], [.retAddr 0, .ref 0], (m, k), hp)) rfl rfl ?_
  refine Ev.step (j := 1419) (s' := ([some (.retAddr 0), some (.ref 0), some (.ref 69), some (.ref 87), some (.int z), a5, a6], [.int z, .retAddr 0, .ref 0], (m, k), hp)) rfl rfl ?_
  refine bs_lit (k := 1) rfl rfl fun z563 hz563 => ?_
  refine bs_add rfl (by omega) (by omega) fun z564 hz564 => ?_
  refine ls_sld rfl (by omega) (by omega) ?_
  exact by
   refine (show Ev _ 1422 ([some (.retAddr 0), some (.ref 0), some (.ref 69), some (.ref 87), some (.int z), a5, a6], [.int (xs z564.toNatClampNeg), .ref 0], (m, k), hp) _ from ?_)
   refine bs_callx (K := kq_X10_count_0df2a5) [.ref 0, .int (xs z564.toNatClampNeg)] [] rfl (sf_cX ct_X10_count_0df2a5) H rfl rfl rfl (bs_rcv (g := 10) H (bs_R.uq H (g := 10) rfl) (by decide) rfl) (ls_room (Nat.le_of_ble_eq_true rfl) (by omega) (by omega)) ?_ (sf_S_nil) fun r566 hp565 thp565 Hhp565 fhp565 ahp565 php565 xhp565 => ?_
   · intro q k h
     match q, h with
     | 0, h => cases h; exact bs_jR (bs_R.uq H (g := 10) rfl)
     | 1, h => cases h; exact sf_j0
     | q + 2, h => cases h
   obtain ⟨z567, rfl⟩ := bs_anI ahp565
   have E568 := lw_keep H fhp565 rfl rfl rfl rfl rfl hs
   have hsm : sf_rd hp565 69 2 = some (tn : Int) := (fhp565.2.2.1 _ (bs_R.uq H (g := 11) (p := 69) rfl).1 _ (by rw [(bs_R.uq H (g := 11) (p := 69) rfl).2]; rfl)).trans hn2
   obtain ⟨ew1, hC1, hX1⟩ := pC H (d_count hC rfl _) xhp565 hX
   refine (show Ev _ 1425 ([some (.retAddr 0), some (.ref 0), some (.ref 69), some (.ref 87), some (.int z), a5, a6], [.int z567], (m + 0, k + 0), hp565) _ from ?_)
   refine Ev.step (j := 1426) (s' := ([some (.retAddr 0), some (.ref 0), some (.ref 69), some (.ref 87), some (.int z), a5, a6], [], (m + 0, k + 0), hp565)) rfl rfl ?_
   exact by
    refine Ev.step (j := 1427) (s' := ([some (.retAddr 0), some (.ref 0), some (.ref 69), some (.ref 87), some (.int z), a5, a6], [.ref 69], (m + 0, k + 0), hp565)) rfl rfl ?_
    refine Ev.step (j := 1428) (s' := ([some (.retAddr 0), some (.ref 0), some (.ref 69), some (.ref 87), some (.int z), a5, a6], [.retAddr 0, .ref 69], (m + 0, k + 0), hp565)) rfl rfl ?_
    refine Ev.step (j := 1430) (s' := ([some (.retAddr 0), some (.ref 0), some (.ref 69), some (.ref 87), some (.int z), a5, a6], [.int z, .retAddr 0, .ref 69], (m + 0, k + 0), hp565)) rfl rfl ?_
    refine bs_lit (k := 1) rfl rfl fun z569 hz569 => ?_
    refine bs_add rfl (by omega) (by omega) fun z570 hz570 => ?_
    refine ls_sld rfl (by omega) (by omega) ?_
    refine (show Ev _ 1433 ([some (.retAddr 0), some (.ref 0), some (.ref 69), some (.ref 87), some (.int z), a5, a6], [.int (xs z570.toNatClampNeg), .ref 69], (m + 0, k + 0), hp565) _ from ?_)
    refine bs_callx (K := kq_X11_count_3d45d6) [.ref 69, .int (xs z570.toNatClampNeg)] [] rfl (sf_cX ct_X11_count_3d45d6) Hhp565 rfl rfl rfl (bs_rcv (g := 11) Hhp565 (bs_R.uq Hhp565 (g := 11) rfl) (by decide) rfl) (ls_room (Nat.le_of_ble_eq_true rfl) (by omega) (by omega)) ?_ (sf_S_nil) fun r572 hp571 thp571 Hhp571 fhp571 ahp571 php571 xhp571 => ?_
    · intro q k h
      match q, h with
      | 0, h => cases h; exact bs_jR (bs_R.uq Hhp565 (g := 11) rfl)
      | 1, h => cases h; exact sf_j0
      | q + 2, h => cases h
    obtain ⟨z573, rfl⟩ := bs_anI ahp571
    have E574 := lw_keep Hhp565 fhp571 rfl rfl rfl rfl rfl E568
    rw [show z570 = z564 from Int32.toInt_inj.mp (by omega)] at xhp571
    obtain ⟨ew2, hX2, hC2⟩ := pX Hhp565 (e_count hX1 ((nat_rd hsm htn).trans (nat_rd hsn htn).symm) _) xhp571 hC1
    refine (show Ev _ 1436 ([some (.retAddr 0), some (.ref 0), some (.ref 69), some (.ref 87), some (.int z), a5, a6], [.int z573], (m + 0 + 0, k + 0 + 0), hp571) _ from ?_)
    exact by
     refine Ev.step (j := 1437) (s' := ([some (.retAddr 0), some (.ref 0), some (.ref 69), some (.ref 87), some (.int z), a5, a6], [], (m + 0 + 0, k + 0 + 0), hp571)) rfl rfl ?_
     refine Ev.step (j := 1440) (s' := ([some (.retAddr 0), some (.ref 0), some (.ref 69), some (.ref 87), some (.int z), a5, a6], [], (m + 0 + 0, k + 0 + 0), hp571)) rfl rfl ?_
     exact K _ _ _ _ _ _ Hhp571 ⟨E574, _, hD, hC2, hX2⟩ (by omega) (by omega)
end
-- 66.loop.lean.txt
section
/-! ===== the law's run ===== -/
set_option maxRecDepth 100000 in
set_option maxHeartbeats 4000000 in
theorem law_pre (xs : Nat → Int32) (n : Nat) {Q : ab_O → Prop} (h : Ev (LT xs n) 23 ([some (.retAddr 0), some (.ref 0), some (.ref 69), some (.ref 87), some (.int 0), none, none], [], (88, 8872), H0) Q) : Ev (LT xs n) 0 (ab_en 7 [.retAddr 0], [], (0, 0), (0, ab_h0)) Q := by
  unfold LT at *
  refine Ev.step rfl rfl ?_
  refine Ev.step rfl rfl ?_
  refine Ev.call rfl rfl fr_X10 ?_
  refine Ev.step rfl rfl ?_
  refine Ev.step rfl rfl ?_
  refine Ev.step rfl rfl ?_
  refine Ev.call rfl rfl fr_X11 ?_
  refine Ev.step rfl rfl ?_
  refine Ev.step rfl rfl ?_
  refine Ev.step rfl rfl ?_
  refine Ev.step rfl rfl ?_
  refine Ev.step rfl rfl ?_
  refine Ev.step rfl rfl ?_
  rw [← fr_out] at h
  exact h
theorem lw_eq0 : lw_eq H0 := ⟨⟨⟨0, rfl, rfl, by decide, by decide, fun q hq => absurd hq (by omega)⟩, fun k hk => match k, hk with
  | 0, _ => ⟨_, rfl, by decide⟩
  | 1, _ => ⟨_, rfl, by decide⟩
  | 2, _ => ⟨_, rfl, by decide⟩
  | 3, _ => ⟨_, rfl, by decide⟩
  | 4, _ => ⟨_, rfl, by decide⟩
  | 5, _ => ⟨_, rfl, by decide⟩
  | 6, _ => ⟨_, rfl, by decide⟩
  | 7, _ => ⟨_, rfl, by decide⟩
  | 8, _ => ⟨_, rfl, by decide⟩
  | 9, _ => ⟨_, rfl, by decide⟩
  | 10, _ => ⟨_, rfl, by decide⟩
  | 11, _ => ⟨_, rfl, by decide⟩
  | 12, _ => ⟨_, rfl, by decide⟩
  | 13, _ => ⟨_, rfl, by decide⟩
  | 14, _ => ⟨_, rfl, by decide⟩
  | 15, _ => ⟨_, rfl, by decide⟩
  | 16, _ => ⟨_, rfl, by decide⟩
  | 17, _ => ⟨_, rfl, by decide⟩
  | 18, _ => ⟨_, rfl, by decide⟩
  | 19, _ => ⟨_, rfl, by decide⟩
  | 20, _ => ⟨_, rfl, by decide⟩
  | 21, _ => ⟨_, rfl, by decide⟩
  | 22, _ => ⟨_, rfl, by decide⟩
  | 23, _ => ⟨_, rfl, by decide⟩
  | 24, _ => ⟨_, rfl, by decide⟩
  | k + 25, h => absurd h (by omega)⟩, cx00⟩
set_option maxRecDepth 100000 in
set_option maxHeartbeats 4000000 in
theorem law_loop (xs : Nat → Int32) (n : Nat) (hn : n ≤ 3072) : Ev (LT xs n) 23 ([some (.retAddr 0), some (.ref 0), some (.ref 69), some (.ref 87), some (.int 0), none, none], [], (88, 8872), H0) (fun _ => True) := by
  have hN : (Int32.ofNat n).toInt = n := i_toInt (by omega)
  refine bs_loop (T := LT xs n) (i := 23) (Q := fun _ => True) (ι := Int32 × Option Value × Option Value × Nat × Nat × ab_H × (Nat → Nat)) (fun ⟨z, a5, a6, m, k, hp, t⟩ => ([some (.retAddr 0), some (.ref 0), some (.ref 69), some (.ref 87), some (.int z), a5, a6], [], (m, k), hp)) (fun ⟨z, a5, a6, m, k, hp, t⟩ => sf_h t hp ∧ lw_eq hp ∧ ∃ q : Nat, z.toInt = 6 * q ∧ z.toInt ≤ n ∧ m ≤ 88 + 21 * q ∧ k ≤ 8872 + 410 * q) (fun ⟨z, a5, a6, m, k, hp, t⟩ => (n + 6 - z.toInt).toNat) ?_ (0, none, none, 88, 8872, H0, T0) ⟨sf_h0, lw_eq0, 0, rfl, by show (0 : Int) ≤ n; omega, by omega, by omega⟩
  rintro ⟨z, a5, a6, m, k, hp, t⟩ ⟨H, hs, q, hq, hzn, hm0, hk0⟩ ih
  refine (show Ev _ 23 ([some (.retAddr 0), some (.ref 0), some (.ref 69), some (.ref 87), some (.int z), a5, a6], [], (m, k), hp) _ from ?_)
  have hq0 : q ≤ 512 := by omega
  have hm : m + 21 ≤ 601024 := by omega
  have hk : k + 410 ≤ 7293034 := by omega
  refine Ev.step (j := 25) (s' := ([some (.retAddr 0), some (.ref 0), some (.ref 69), some (.ref 87), some (.int z), a5, a6], [.int z], (m, k), hp)) rfl rfl ?_
  refine Ev.step (j := 26) (s' := ([some (.retAddr 0), some (.ref 0), some (.ref 69), some (.ref 87), some (.int z), a5, a6], [.retAddr 0, .int z], (m, k), hp)) rfl rfl ?_
  refine Ev.step (j := 27) (s' := ([some (.retAddr 0), some (.ref 0), some (.ref 69), some (.ref 87), some (.int z), a5, a6], [.int (Int32.ofNat n), .int z], (m, k), hp)) rfl rfl ?_
  refine bs_lit (k := 6) rfl rfl fun z1 hz1 => ?_
  refine bs_sub rfl (by omega) (by omega) fun z2 hz2 => ?_
  refine bs_gt rfl (fun c => ?_) (fun c => ?_)
  · refine bs_lit (k := 1) rfl rfl fun z3 hz3 => ?_
    refine Ev.ret (o := (some (.int 1), hp)) rfl ?_ trivial
    have e3 : z3 = 1 := Int32.toInt_inj.mp hz3
    subst e3
    show cond (decide ((1 : Int32) = 1) && decide (m ≤ 601024) && decide (k ≤ 7293034)) _ none = _
    rw [decide_eq_true (show m ≤ 601024 by omega), decide_eq_true (show k ≤ 7293034 by omega)]
    rfl
  · have hz0 : 0 ≤ z.toInt := by omega
    have hz1' : z.toInt + 6 ≤ n := by omega
    have K : lw_K xs n z m k (fun _ => True) := fun hp' t' b5 b6 m' k' H' e' hm' hk' => by
      refine bs_iinc 6 rfl rfl rfl rfl (by omega) (by omega) fun z9 hz9 => ?_
      refine (show Ev _ 1443 ([some (.retAddr 0), some (.ref 0), some (.ref 69), some (.ref 87), some (.int z9), b5, b6], [], (m', k'), hp') _ from ?_)
      refine Ev.step (j := 23) (s' := ([some (.retAddr 0), some (.ref 0), some (.ref 69), some (.ref 87), some (.int z9), b5, b6], [], (m', k'), hp')) rfl rfl ?_
      refine ih (z9, b5, b6, m', k', hp', t') ⟨H', e', q + 1, by omega, by omega, by omega, by omega⟩ ?_
      show (n + 6 - z9.toInt).toNat < (n + 6 - z.toInt).toNat
      omega
    refine Ev.step (j := 34) (s' := ([some (.retAddr 0), some (.ref 0), some (.ref 69), some (.ref 87), some (.int z), a5, a6], [.retAddr 0], (m, k), hp)) rfl rfl ?_
    refine Ev.step (j := 36) (s' := ([some (.retAddr 0), some (.ref 0), some (.ref 69), some (.ref 87), some (.int z), a5, a6], [.int z, .retAddr 0], (m, k), hp)) rfl rfl ?_
    refine ls_sld rfl (by omega) (by omega) ?_
    refine bs_lit (k := 63) rfl rfl fun z4 hz4 => ?_
    refine bs_and rfl (by omega) fun z5 hz5 gz5 => ?_
    obtain ⟨j, hj, ej⟩ : ∃ j : Nat, j < 64 ∧ z5.toInt = j := ⟨z5.toInt.toNat, by omega, by omega⟩
    match j, hj, ej with
    | 0, _, ej => exact bs_tab 0 rfl (by omega) rfl (op_feed H hs hz0 hz1' hn hm hk K)
    | 1, _, ej => exact bs_tab 1 rfl (by omega) rfl (op_end H hs hz0 hz1' hn hm hk K)
    | 2, _, ej => exact bs_tab 2 rfl (by omega) rfl (op_strait H hs hz0 hz1' hn hm hk K)
    | 3, _, ej => exact bs_tab 3 rfl (by omega) rfl (op_fault H hs hz0 hz1' hn hm hk K)
    | 4, _, ej => exact bs_tab 4 rfl (by omega) rfl (op_good H hs hz0 hz1' hn hm hk K)
    | 5, _, ej => exact bs_tab 5 rfl (by omega) rfl (op_crossed H hs hz0 hz1' hn hm hk K)
    | 6, _, ej => exact bs_tab 6 rfl (by omega) rfl (op_man H hs hz0 hz1' hn hm hk K)
    | 7, _, ej => exact bs_tab 7 rfl (by omega) rfl (op_apart H hs hz0 hz1' hn hm hk K)
    | 8, _, ej => exact bs_tab 8 rfl (by omega) rfl (op_now H hs hz0 hz1' hn hm hk K)
    | 9, _, ej => exact bs_tab 9 rfl (by omega) rfl (op_hoard H hs hz0 hz1' hn hm hk K)
    | 10, _, ej => exact bs_tab 10 rfl (by omega) rfl (op_bare H hs hz0 hz1' hn hm hk K)
    | 11, _, ej => exact bs_tab 11 rfl (by omega) rfl (op_waste H hs hz0 hz1' hn hm hk K)
    | 12, _, ej => exact bs_tab 12 rfl (by omega) rfl (op_die H hs hz0 hz1' hn hm hk K)
    | 13, _, ej => exact bs_tab 13 rfl (by omega) rfl (op_days H hs hz0 hz1' hn hm hk K)
    | 14, _, ej => exact bs_tab 14 rfl (by omega) rfl (op_undo H hs hz0 hz1' hn hm hk K)
    | 15, _, ej => exact bs_tab 15 rfl (by omega) rfl (op_lacks H hs hz0 hz1' hn hm hk K)
    | 16, _, ej => exact bs_tab 16 rfl (by omega) rfl (op_falses H hs hz0 hz1' hn hm hk K)
    | 17, _, ej => exact bs_tab 17 rfl (by omega) rfl (op_going H hs hz0 hz1' hn hm hk K)
    | 18, _, ej => exact bs_tab 18 rfl (by omega) rfl (op_goes H hs hz0 hz1' hn hm hk K)
    | 19, _, ej => exact bs_tab 19 rfl (by omega) rfl (op_crosses H hs hz0 hz1' hn hm hk K)
    | 20, _, ej => exact bs_tab 20 rfl (by omega) rfl (op_comes H hs hz0 hz1' hn hm hk K)
    | 21, _, ej => exact bs_tab 21 rfl (by omega) rfl (op_without H hs hz0 hz1' hn hm hk K)
    | 22, _, ej => exact bs_tab 22 rfl (by omega) rfl (op_meet H hs hz0 hz1' hn hm hk K)
    | 23, _, ej => exact bs_tab 23 rfl (by omega) rfl (op_loads H hs hz0 hz1' hn hm hk K)
    | 24, _, ej => exact bs_tab 24 rfl (by omega) rfl (op_which H hs hz0 hz1' hn hm hk K)
    | 25, _, ej => exact bs_tab 25 rfl (by omega) rfl (op_settles H hs hz0 hz1' hn hm hk K)
    | 26, _, ej => exact bs_tab 26 rfl (by omega) rfl (op_hunger H hs hz0 hz1' hn hm hk K)
    | 27, _, ej => exact bs_tab 27 rfl (by omega) rfl (op_prices H hs hz0 hz1' hn hm hk K)
    | 28, _, ej => exact bs_tab 28 rfl (by omega) rfl (op_price H hs hz0 hz1' hn hm hk K)
    | 29, _, ej => exact bs_tab 29 rfl (by omega) rfl (op_dearest H hs hz0 hz1' hn hm hk K)
    | 30, _, ej => exact bs_tab 30 rfl (by omega) rfl (op_rats H hs hz0 hz1' hn hm hk K)
    | 31, _, ej => exact bs_tab 31 rfl (by omega) rfl (op_hoarded H hs hz0 hz1' hn hm hk K)
    | 32, _, ej => exact bs_tab 32 rfl (by omega) rfl (op_drawn H hs hz0 hz1' hn hm hk K)
    | 33, _, ej => exact bs_tab 33 rfl (by omega) rfl (op_odds H hs hz0 hz1' hn hm hk K)
    | 34, _, ej =>
      refine bs_tab 34 rfl (by omega) rfl ?_
      obtain ⟨w, hw⟩ : ∃ w : Int32, w.toInt = z.toInt + 1 := ⟨Int32.ofInt (z.toInt + 1), Int32.toInt_ofInt_of_le (by omega) (by omega)⟩
      have hu : ∀ y : Int32, y.toInt = z.toInt + 1 → y = w := fun y hy => Int32.toInt_inj.mp (by omega)
      rcases (show (xs w.toNatClampNeg).toInt ≤ -1 ∨ (0 ≤ (xs w.toNatClampNeg).toInt ∧ (xs w.toNatClampNeg).toInt ≤ 1) ∨ 2 ≤ (xs w.toNatClampNeg).toInt by omega) with h1 | h1 | h1
      · exact op_log_b H hs hz0 hz1' hn hm hk (fun y hy => by rw [hu y hy]; exact h1) K
      · exact op_log_a H hs hz0 hz1' hn hm hk (fun y hy => by rw [hu y hy]; exact h1) K
      · exact op_log_c H hs hz0 hz1' hn hm hk (fun y hy => by rw [hu y hy]; exact h1) K
    | 35, _, ej => exact bs_tab 35 rfl (by omega) rfl (op_logged H hs hz0 hz1' hn hm hk K)
    | 36, _, ej => exact bs_tab 36 rfl (by omega) rfl (op_sentence H hs hz0 hz1' hn hm hk K)
    | 37, _, ej => exact bs_tab 37 rfl (by omega) rfl (op_said H hs hz0 hz1' hn hm hk K)
    | 38, _, ej => exact bs_tab 38 rfl (by omega) rfl (op_image H hs hz0 hz1' hn hm hk K)
    | 39, _, ej => exact bs_tab 39 rfl (by omega) rfl (op_restore H hs hz0 hz1' hn hm hk K)
    | 40, _, ej => exact bs_tab 40 rfl (by omega) rfl (op_count H hs hz0 hz1' hn hm hk K)
    | j + 41, _, ej => exact bs_tabD rfl (by show _ ∨ _ + ((41 : Nat) : Int) ≤ _; omega) (K hp t a5 a6 m k H hs (by omega) (by omega))
theorem whole_start {p : Program} {e : Env} {s : State} {m : MethodId} {below : List Frame} {meth : Method} {c : Code} (l : Launch) (htr : l.stackTraces = false) {b L : Nat} {xs : Nat → Int32} (hL : L ≤ 3072) (C0 : lw_At p s m meth c b L xs) : W p l e room_1 s m #[Value.ref b] below meth c s.heap [] 0 0 (lw_Z below #[Value.ref b] s) (entryFrame m ([Value.ref b] : List Value).toArray 7) := by
  refine start_of l htr C0 ?_
  obtain ⟨f, o, h1, -⟩ := law_pre xs L (law_loop xs L hL)
  exact ⟨f, o, h1⟩
end
