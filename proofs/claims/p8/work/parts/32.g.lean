-- 65.o2.lean.txt
section
set_option maxRecDepth 100000 in
set_option maxHeartbeats 4000000 in
theorem op_price {xs : Nat → Int32} {n : Nat} {z : Int32} {a5 a6 : Option Value} {m k : Nat} {hp : ab_H} {t : Nat → Nat} {Q : ab_O → Prop} (H : sf_h t hp) (hs : lw_eq hp) (hz0 : 0 ≤ z.toInt) (hz1 : z.toInt + 6 ≤ n) (hn : n ≤ 3072) (hm : m + 21 ≤ 709736) (hk : k + 410 ≤ 6966897) (K : lw_K xs n z m k Q) : Ev (LT xs n) 1131 ([some (.retAddr 0), some (.ref 0), some (.ref 69), some (.ref 87), some (.int z), a5, a6], [], (m, k), hp) Q := by
  obtain ⟨hs, D, hD, hC, hX⟩ := hs
  refine Ev.step (j := 1132) (s' := ([some (.retAddr 0), some (.ref 0), some (.ref 69), some (.ref 87), some (.int z), a5, a6], [.ref 0], (m, k), hp)) rfl rfl ?_
  refine Ev.step (j := 1133) (s' := ([some (.retAddr 0), some (.ref 0), some (.ref 69), some (.ref 87), some (.int z), a5, a6], [.retAddr 0, .ref 0], (m, k), hp)) rfl rfl ?_
  refine Ev.step (j := 1135) (s' := ([some (.retAddr 0), some (.ref 0), some (.ref 69), some (.ref 87), some (.int z), a5, a6], [.int z, .retAddr 0, .ref 0], (m, k), hp)) rfl rfl ?_
  refine bs_lit (k := 1) rfl rfl fun z397 hz397 => ?_
  refine bs_add rfl (by omega) (by omega) fun z398 hz398 => ?_
  refine ls_sld rfl (by omega) (by omega) ?_
  refine (show Ev _ 1138 ([some (.retAddr 0), some (.ref 0), some (.ref 69), some (.ref 87), some (.int z), a5, a6], [.int (xs z398.toNatClampNeg), .ref 0], (m, k), hp) _ from ?_)
  refine Ev.step (j := 1139) (s' := ([some (.retAddr 0), some (.ref 0), some (.ref 69), some (.ref 87), some (.int z), a5, a6], [.retAddr 0, .int (xs z398.toNatClampNeg), .ref 0], (m, k), hp)) rfl rfl ?_
  refine Ev.step (j := 1141) (s' := ([some (.retAddr 0), some (.ref 0), some (.ref 69), some (.ref 87), some (.int z), a5, a6], [.int z, .retAddr 0, .int (xs z398.toNatClampNeg), .ref 0], (m, k), hp)) rfl rfl ?_
  refine bs_lit (k := 2) rfl rfl fun z399 hz399 => ?_
  refine bs_add rfl (by omega) (by omega) fun z400 hz400 => ?_
  refine ls_sld rfl (by omega) (by omega) ?_
  refine (show Ev _ 1144 ([some (.retAddr 0), some (.ref 0), some (.ref 69), some (.ref 87), some (.int z), a5, a6], [.int (xs z400.toNatClampNeg), .int (xs z398.toNatClampNeg), .ref 0], (m, k), hp) _ from ?_)
  refine bs_call (K := kq_X10_price_57b5ea) [.ref 0, .int (xs z398.toNatClampNeg), .int (xs z400.toNatClampNeg)] [] rfl ct_X10_price_57b5ea H rfl rfl rfl (bs_rcv (g := 10) H (bs_R.uq H (g := 10) rfl) (by decide) rfl) (ls_room (Nat.le_of_ble_eq_true rfl) (by omega) (by omega)) ?_ (sf_S_nil) fun r402 hp401 thp401 Hhp401 fhp401 ahp401 php401 => ?_
  · intro q k h
    match q, h with
    | 0, h => cases h; exact bs_jR (bs_R.uq H (g := 10) rfl)
    | 1, h => cases h; exact sf_j0
    | 2, h => cases h; exact sf_j0
    | q + 3, h => cases h
  obtain ⟨z403, rfl⟩ := bs_anI ahp401
  have E404 := lw_keep H fhp401 rfl rfl rfl rfl rfl hs
  obtain ⟨hC1, kx1⟩ := CRW (by rfl) H Hhp401 fhp401 hC
  have hX1 := kx1 _ hX
  refine (show Ev _ 1147 ([some (.retAddr 0), some (.ref 0), some (.ref 69), some (.ref 87), some (.int z), a5, a6], [.int z403], (m + 0, k + 0), hp401) _ from ?_)
  refine Ev.step (j := 1148) (s' := ([some (.retAddr 0), some (.ref 0), some (.ref 69), some (.ref 87), some (.int z), a5, a6], [], (m + 0, k + 0), hp401)) rfl rfl ?_
  refine Ev.step (j := 1149) (s' := ([some (.retAddr 0), some (.ref 0), some (.ref 69), some (.ref 87), some (.int z), a5, a6], [.ref 69], (m + 0, k + 0), hp401)) rfl rfl ?_
  refine Ev.step (j := 1150) (s' := ([some (.retAddr 0), some (.ref 0), some (.ref 69), some (.ref 87), some (.int z), a5, a6], [.retAddr 0, .ref 69], (m + 0, k + 0), hp401)) rfl rfl ?_
  refine Ev.step (j := 1152) (s' := ([some (.retAddr 0), some (.ref 0), some (.ref 69), some (.ref 87), some (.int z), a5, a6], [.int z, .retAddr 0, .ref 69], (m + 0, k + 0), hp401)) rfl rfl ?_
  refine bs_lit (k := 1) rfl rfl fun z405 hz405 => ?_
  refine bs_add rfl (by omega) (by omega) fun z406 hz406 => ?_
  refine ls_sld rfl (by omega) (by omega) ?_
  refine (show Ev _ 1155 ([some (.retAddr 0), some (.ref 0), some (.ref 69), some (.ref 87), some (.int z), a5, a6], [.int (xs z406.toNatClampNeg), .ref 69], (m + 0, k + 0), hp401) _ from ?_)
  refine Ev.step (j := 1156) (s' := ([some (.retAddr 0), some (.ref 0), some (.ref 69), some (.ref 87), some (.int z), a5, a6], [.retAddr 0, .int (xs z406.toNatClampNeg), .ref 69], (m + 0, k + 0), hp401)) rfl rfl ?_
  refine Ev.step (j := 1158) (s' := ([some (.retAddr 0), some (.ref 0), some (.ref 69), some (.ref 87), some (.int z), a5, a6], [.int z, .retAddr 0, .int (xs z406.toNatClampNeg), .ref 69], (m + 0, k + 0), hp401)) rfl rfl ?_
  refine bs_lit (k := 2) rfl rfl fun z407 hz407 => ?_
  refine bs_add rfl (by omega) (by omega) fun z408 hz408 => ?_
  refine ls_sld rfl (by omega) (by omega) ?_
  refine (show Ev _ 1161 ([some (.retAddr 0), some (.ref 0), some (.ref 69), some (.ref 87), some (.int z), a5, a6], [.int (xs z408.toNatClampNeg), .int (xs z406.toNatClampNeg), .ref 69], (m + 0, k + 0), hp401) _ from ?_)
  refine bs_call (K := kq_X11_price_334faa) [.ref 69, .int (xs z406.toNatClampNeg), .int (xs z408.toNatClampNeg)] [] rfl ct_X11_price_334faa Hhp401 rfl rfl rfl (bs_rcv (g := 11) Hhp401 (bs_R.uq Hhp401 (g := 11) rfl) (by decide) rfl) (ls_room (Nat.le_of_ble_eq_true rfl) (by omega) (by omega)) ?_ (sf_S_nil) fun r410 hp409 thp409 Hhp409 fhp409 ahp409 php409 => ?_
  · intro q k h
    match q, h with
    | 0, h => cases h; exact bs_jR (bs_R.uq Hhp401 (g := 11) rfl)
    | 1, h => cases h; exact sf_j0
    | 2, h => cases h; exact sf_j0
    | q + 3, h => cases h
  obtain ⟨z411, rfl⟩ := bs_anI ahp409
  have E412 := lw_keep Hhp401 fhp409 rfl rfl rfl rfl rfl E404
  obtain ⟨hX2, kc2⟩ := XRW (by rfl) (by rfl) Hhp401 Hhp409 fhp409 hC1.c hX1
  have hC2 := kc2 _ hC1
  refine (show Ev _ 1164 ([some (.retAddr 0), some (.ref 0), some (.ref 69), some (.ref 87), some (.int z), a5, a6], [.int z411], (m + 0 + 0, k + 0 + 0), hp409) _ from ?_)
  refine Ev.step (j := 1165) (s' := ([some (.retAddr 0), some (.ref 0), some (.ref 69), some (.ref 87), some (.int z), a5, a6], [], (m + 0 + 0, k + 0 + 0), hp409)) rfl rfl ?_
  refine Ev.step (j := 1468) (s' := ([some (.retAddr 0), some (.ref 0), some (.ref 69), some (.ref 87), some (.int z), a5, a6], [], (m + 0 + 0, k + 0 + 0), hp409)) rfl rfl ?_
  exact K _ _ _ _ _ _ Hhp409 ⟨E412, D, hD, hC2, hX2⟩ (by omega) (by omega)
set_option maxRecDepth 100000 in
set_option maxHeartbeats 4000000 in
theorem op_dearest {xs : Nat → Int32} {n : Nat} {z : Int32} {a5 a6 : Option Value} {m k : Nat} {hp : ab_H} {t : Nat → Nat} {Q : ab_O → Prop} (H : sf_h t hp) (hs : lw_eq hp) (hz0 : 0 ≤ z.toInt) (hz1 : z.toInt + 6 ≤ n) (hn : n ≤ 3072) (hm : m + 21 ≤ 709736) (hk : k + 410 ≤ 6966897) (K : lw_K xs n z m k Q) : Ev (LT xs n) 1168 ([some (.retAddr 0), some (.ref 0), some (.ref 69), some (.ref 87), some (.int z), a5, a6], [], (m, k), hp) Q := by
  obtain ⟨hs, D, hD, hC, hX⟩ := hs
  refine Ev.step (j := 1169) (s' := ([some (.retAddr 0), some (.ref 0), some (.ref 69), some (.ref 87), some (.int z), a5, a6], [.ref 0], (m, k), hp)) rfl rfl ?_
  refine bs_callx (K := kq_X10_dearest_4c18a7) [.ref 0] [] rfl (sf_cX ct_X10_dearest_4c18a7) H rfl rfl rfl (bs_rcv (g := 10) H (bs_R.uq H (g := 10) rfl) (by decide) rfl) (ls_room (Nat.le_of_ble_eq_true rfl) (by omega) (by omega)) ?_ (sf_S_nil) fun r414 hp413 thp413 Hhp413 fhp413 ahp413 php413 xhp413 => ?_
  · intro q k h
    match q, h with
    | 0, h => cases h; exact bs_jR (bs_R.uq H (g := 10) rfl)
    | q + 1, h => cases h
  obtain ⟨z415, rfl⟩ := bs_anI ahp413
  have E416 := lw_keep H fhp413 rfl rfl rfl rfl rfl hs
  obtain ⟨ew1, hC1, hX1⟩ := pC H (d_dearest hC hD) xhp413 hX
  refine (show Ev _ 1172 ([some (.retAddr 0), some (.ref 0), some (.ref 69), some (.ref 87), some (.int z), a5, a6], [.int z415], (m + 0, k + 0), hp413) _ from ?_)
  refine Ev.step (j := 1173) (s' := ([some (.retAddr 0), some (.ref 0), some (.ref 69), some (.ref 87), some (.int z), a5, a6], [], (m + 0, k + 0), hp413)) rfl rfl ?_
  refine Ev.step (j := 1174) (s' := ([some (.retAddr 0), some (.ref 0), some (.ref 69), some (.ref 87), some (.int z), a5, a6], [.ref 69], (m + 0, k + 0), hp413)) rfl rfl ?_
  refine bs_callx (K := kq_X11_dearest_6afe8b) [.ref 69] [] rfl (sf_cX ct_X11_dearest_6afe8b) Hhp413 rfl rfl rfl (bs_rcv (g := 11) Hhp413 (bs_R.uq Hhp413 (g := 11) rfl) (by decide) rfl) (ls_room (Nat.le_of_ble_eq_true rfl) (by omega) (by omega)) ?_ (sf_S_nil) fun r418 hp417 thp417 Hhp417 fhp417 ahp417 php417 xhp417 => ?_
  · intro q k h
    match q, h with
    | 0, h => cases h; exact bs_jR (bs_R.uq Hhp413 (g := 11) rfl)
    | q + 1, h => cases h
  obtain ⟨z419, rfl⟩ := bs_anI ahp417
  have E420 := lw_keep Hhp413 fhp417 rfl rfl rfl rfl rfl E416
  obtain ⟨ew2, hX2, hC2⟩ := pX Hhp413 (e_dearest hX1 hD) xhp417 hC1
  refine (show Ev _ 1177 ([some (.retAddr 0), some (.ref 0), some (.ref 69), some (.ref 87), some (.int z), a5, a6], [.int z419], (m + 0 + 0, k + 0 + 0), hp417) _ from ?_)
  refine Ev.step (j := 1178) (s' := ([some (.retAddr 0), some (.ref 0), some (.ref 69), some (.ref 87), some (.int z), a5, a6], [], (m + 0 + 0, k + 0 + 0), hp417)) rfl rfl ?_
  refine Ev.step (j := 1468) (s' := ([some (.retAddr 0), some (.ref 0), some (.ref 69), some (.ref 87), some (.int z), a5, a6], [], (m + 0 + 0, k + 0 + 0), hp417)) rfl rfl ?_
  exact K _ _ _ _ _ _ Hhp417 ⟨E420, _, hD, hC2, hX2⟩ (by omega) (by omega)
set_option maxRecDepth 100000 in
set_option maxHeartbeats 4000000 in
theorem op_rats {xs : Nat → Int32} {n : Nat} {z : Int32} {a5 a6 : Option Value} {m k : Nat} {hp : ab_H} {t : Nat → Nat} {Q : ab_O → Prop} (H : sf_h t hp) (hs : lw_eq hp) (hz0 : 0 ≤ z.toInt) (hz1 : z.toInt + 6 ≤ n) (hn : n ≤ 3072) (hm : m + 21 ≤ 709736) (hk : k + 410 ≤ 6966897) (K : lw_K xs n z m k Q) : Ev (LT xs n) 1181 ([some (.retAddr 0), some (.ref 0), some (.ref 69), some (.ref 87), some (.int z), a5, a6], [], (m, k), hp) Q := by
  obtain ⟨hs, D, hD, hC, hX⟩ := hs
  refine Ev.step (j := 1182) (s' := ([some (.retAddr 0), some (.ref 0), some (.ref 69), some (.ref 87), some (.int z), a5, a6], [.ref 0], (m, k), hp)) rfl rfl ?_
  refine bs_callx (K := kq_X10_rats_4c18a7) [.ref 0] [] rfl (sf_cX ct_X10_rats_4c18a7) H rfl rfl rfl (bs_rcv (g := 10) H (bs_R.uq H (g := 10) rfl) (by decide) rfl) (ls_room (Nat.le_of_ble_eq_true rfl) (by omega) (by omega)) ?_ (sf_S_nil) fun r422 hp421 thp421 Hhp421 fhp421 ahp421 php421 xhp421 => ?_
  · intro q k h
    match q, h with
    | 0, h => cases h; exact bs_jR (bs_R.uq H (g := 10) rfl)
    | q + 1, h => cases h
  obtain ⟨z423, rfl⟩ := bs_anI ahp421
  have E424 := lw_keep H fhp421 rfl rfl rfl rfl rfl hs
  obtain ⟨ew1, hC1, hX1⟩ := pC H (d_rats hC hD) xhp421 hX
  refine (show Ev _ 1185 ([some (.retAddr 0), some (.ref 0), some (.ref 69), some (.ref 87), some (.int z), a5, a6], [.int z423], (m + 0, k + 0), hp421) _ from ?_)
  refine Ev.step (j := 1186) (s' := ([some (.retAddr 0), some (.ref 0), some (.ref 69), some (.ref 87), some (.int z), a5, a6], [], (m + 0, k + 0), hp421)) rfl rfl ?_
  refine Ev.step (j := 1187) (s' := ([some (.retAddr 0), some (.ref 0), some (.ref 69), some (.ref 87), some (.int z), a5, a6], [.ref 69], (m + 0, k + 0), hp421)) rfl rfl ?_
  refine bs_callx (K := kq_X11_rats_6afe8b) [.ref 69] [] rfl (sf_cX ct_X11_rats_6afe8b) Hhp421 rfl rfl rfl (bs_rcv (g := 11) Hhp421 (bs_R.uq Hhp421 (g := 11) rfl) (by decide) rfl) (ls_room (Nat.le_of_ble_eq_true rfl) (by omega) (by omega)) ?_ (sf_S_nil) fun r426 hp425 thp425 Hhp425 fhp425 ahp425 php425 xhp425 => ?_
  · intro q k h
    match q, h with
    | 0, h => cases h; exact bs_jR (bs_R.uq Hhp421 (g := 11) rfl)
    | q + 1, h => cases h
  obtain ⟨z427, rfl⟩ := bs_anI ahp425
  have E428 := lw_keep Hhp421 fhp425 rfl rfl rfl rfl rfl E424
  obtain ⟨ew2, hX2, hC2⟩ := pX Hhp421 (e_rats hX1 hD) xhp425 hC1
  refine (show Ev _ 1190 ([some (.retAddr 0), some (.ref 0), some (.ref 69), some (.ref 87), some (.int z), a5, a6], [.int z427], (m + 0 + 0, k + 0 + 0), hp425) _ from ?_)
  refine Ev.step (j := 1191) (s' := ([some (.retAddr 0), some (.ref 0), some (.ref 69), some (.ref 87), some (.int z), a5, a6], [], (m + 0 + 0, k + 0 + 0), hp425)) rfl rfl ?_
  refine Ev.step (j := 1468) (s' := ([some (.retAddr 0), some (.ref 0), some (.ref 69), some (.ref 87), some (.int z), a5, a6], [], (m + 0 + 0, k + 0 + 0), hp425)) rfl rfl ?_
  exact K _ _ _ _ _ _ Hhp425 ⟨E428, _, hD, hC2, hX2⟩ (by omega) (by omega)
set_option maxRecDepth 100000 in
set_option maxHeartbeats 4000000 in
theorem op_hoarded {xs : Nat → Int32} {n : Nat} {z : Int32} {a5 a6 : Option Value} {m k : Nat} {hp : ab_H} {t : Nat → Nat} {Q : ab_O → Prop} (H : sf_h t hp) (hs : lw_eq hp) (hz0 : 0 ≤ z.toInt) (hz1 : z.toInt + 6 ≤ n) (hn : n ≤ 3072) (hm : m + 21 ≤ 709736) (hk : k + 410 ≤ 6966897) (K : lw_K xs n z m k Q) : Ev (LT xs n) 1194 ([some (.retAddr 0), some (.ref 0), some (.ref 69), some (.ref 87), some (.int z), a5, a6], [], (m, k), hp) Q := by
  obtain ⟨hs, D, hD, hC, hX⟩ := hs
  refine Ev.step (j := 1195) (s' := ([some (.retAddr 0), some (.ref 0), some (.ref 69), some (.ref 87), some (.int z), a5, a6], [.ref 0], (m, k), hp)) rfl rfl ?_
  refine Ev.step (j := 1196) (s' := ([some (.retAddr 0), some (.ref 0), some (.ref 69), some (.ref 87), some (.int z), a5, a6], [.retAddr 0, .ref 0], (m, k), hp)) rfl rfl ?_
  refine Ev.step (j := 1198) (s' := ([some (.retAddr 0), some (.ref 0), some (.ref 69), some (.ref 87), some (.int z), a5, a6], [.int z, .retAddr 0, .ref 0], (m, k), hp)) rfl rfl ?_
  refine bs_lit (k := 1) rfl rfl fun z429 hz429 => ?_
  refine bs_add rfl (by omega) (by omega) fun z430 hz430 => ?_
  refine ls_sld rfl (by omega) (by omega) ?_
  refine (show Ev _ 1201 ([some (.retAddr 0), some (.ref 0), some (.ref 69), some (.ref 87), some (.int z), a5, a6], [.int (xs z430.toNatClampNeg), .ref 0], (m, k), hp) _ from ?_)
  refine bs_callx (K := kq_X10_hoarded_0df2a5) [.ref 0, .int (xs z430.toNatClampNeg)] [] rfl (sf_cX ct_X10_hoarded_0df2a5) H rfl rfl rfl (bs_rcv (g := 10) H (bs_R.uq H (g := 10) rfl) (by decide) rfl) (ls_room (Nat.le_of_ble_eq_true rfl) (by omega) (by omega)) ?_ (sf_S_nil) fun r432 hp431 thp431 Hhp431 fhp431 ahp431 php431 xhp431 => ?_
  · intro q k h
    match q, h with
    | 0, h => cases h; exact bs_jR (bs_R.uq H (g := 10) rfl)
    | 1, h => cases h; exact sf_j0
    | q + 2, h => cases h
  obtain ⟨z433, rfl⟩ := bs_anI ahp431
  have E434 := lw_keep H fhp431 rfl rfl rfl rfl rfl hs
  obtain ⟨ew1, hC1, hX1⟩ := pC H (d_hoarded hC hD _) xhp431 hX
  refine (show Ev _ 1204 ([some (.retAddr 0), some (.ref 0), some (.ref 69), some (.ref 87), some (.int z), a5, a6], [.int z433], (m + 0, k + 0), hp431) _ from ?_)
  refine Ev.step (j := 1205) (s' := ([some (.retAddr 0), some (.ref 0), some (.ref 69), some (.ref 87), some (.int z), a5, a6], [], (m + 0, k + 0), hp431)) rfl rfl ?_
  refine Ev.step (j := 1206) (s' := ([some (.retAddr 0), some (.ref 0), some (.ref 69), some (.ref 87), some (.int z), a5, a6], [.ref 69], (m + 0, k + 0), hp431)) rfl rfl ?_
  refine Ev.step (j := 1207) (s' := ([some (.retAddr 0), some (.ref 0), some (.ref 69), some (.ref 87), some (.int z), a5, a6], [.retAddr 0, .ref 69], (m + 0, k + 0), hp431)) rfl rfl ?_
  refine Ev.step (j := 1209) (s' := ([some (.retAddr 0), some (.ref 0), some (.ref 69), some (.ref 87), some (.int z), a5, a6], [.int z, .retAddr 0, .ref 69], (m + 0, k + 0), hp431)) rfl rfl ?_
  refine bs_lit (k := 1) rfl rfl fun z435 hz435 => ?_
  refine bs_add rfl (by omega) (by omega) fun z436 hz436 => ?_
  refine ls_sld rfl (by omega) (by omega) ?_
  refine (show Ev _ 1212 ([some (.retAddr 0), some (.ref 0), some (.ref 69), some (.ref 87), some (.int z), a5, a6], [.int (xs z436.toNatClampNeg), .ref 69], (m + 0, k + 0), hp431) _ from ?_)
  refine bs_callx (K := kq_X11_hoarded_3d45d6) [.ref 69, .int (xs z436.toNatClampNeg)] [] rfl (sf_cX ct_X11_hoarded_3d45d6) Hhp431 rfl rfl rfl (bs_rcv (g := 11) Hhp431 (bs_R.uq Hhp431 (g := 11) rfl) (by decide) rfl) (ls_room (Nat.le_of_ble_eq_true rfl) (by omega) (by omega)) ?_ (sf_S_nil) fun r438 hp437 thp437 Hhp437 fhp437 ahp437 php437 xhp437 => ?_
  · intro q k h
    match q, h with
    | 0, h => cases h; exact bs_jR (bs_R.uq Hhp431 (g := 11) rfl)
    | 1, h => cases h; exact sf_j0
    | q + 2, h => cases h
  obtain ⟨z439, rfl⟩ := bs_anI ahp437
  have E440 := lw_keep Hhp431 fhp437 rfl rfl rfl rfl rfl E434
  rw [show z436 = z430 from Int32.toInt_inj.mp (by omega)] at xhp437
  obtain ⟨ew2, hX2, hC2⟩ := pX Hhp431 (e_hoarded hX1 hD _) xhp437 hC1
  refine (show Ev _ 1215 ([some (.retAddr 0), some (.ref 0), some (.ref 69), some (.ref 87), some (.int z), a5, a6], [.int z439], (m + 0 + 0, k + 0 + 0), hp437) _ from ?_)
  refine Ev.step (j := 1216) (s' := ([some (.retAddr 0), some (.ref 0), some (.ref 69), some (.ref 87), some (.int z), a5, a6], [], (m + 0 + 0, k + 0 + 0), hp437)) rfl rfl ?_
  refine Ev.step (j := 1468) (s' := ([some (.retAddr 0), some (.ref 0), some (.ref 69), some (.ref 87), some (.int z), a5, a6], [], (m + 0 + 0, k + 0 + 0), hp437)) rfl rfl ?_
  exact K _ _ _ _ _ _ Hhp437 ⟨E440, _, hD, hC2, hX2⟩ (by omega) (by omega)
set_option maxRecDepth 100000 in
set_option maxHeartbeats 4000000 in
theorem op_drawn {xs : Nat → Int32} {n : Nat} {z : Int32} {a5 a6 : Option Value} {m k : Nat} {hp : ab_H} {t : Nat → Nat} {Q : ab_O → Prop} (H : sf_h t hp) (hs : lw_eq hp) (hz0 : 0 ≤ z.toInt) (hz1 : z.toInt + 6 ≤ n) (hn : n ≤ 3072) (hm : m + 21 ≤ 709736) (hk : k + 410 ≤ 6966897) (K : lw_K xs n z m k Q) : Ev (LT xs n) 1219 ([some (.retAddr 0), some (.ref 0), some (.ref 69), some (.ref 87), some (.int z), a5, a6], [], (m, k), hp) Q := by
  obtain ⟨hs, D, hD, hC, hX⟩ := hs
  refine Ev.step (j := 1220) (s' := ([some (.retAddr 0), some (.ref 0), some (.ref 69), some (.ref 87), some (.int z), a5, a6], [.ref 0], (m, k), hp)) rfl rfl ?_
  refine Ev.step (j := 1221) (s' := ([some (.retAddr 0), some (.ref 0), some (.ref 69), some (.ref 87), some (.int z), a5, a6], [.retAddr 0, .ref 0], (m, k), hp)) rfl rfl ?_
  refine Ev.step (j := 1223) (s' := ([some (.retAddr 0), some (.ref 0), some (.ref 69), some (.ref 87), some (.int z), a5, a6], [.int z, .retAddr 0, .ref 0], (m, k), hp)) rfl rfl ?_
  refine bs_lit (k := 1) rfl rfl fun z441 hz441 => ?_
  refine bs_add rfl (by omega) (by omega) fun z442 hz442 => ?_
  refine ls_sld rfl (by omega) (by omega) ?_
  refine (show Ev _ 1226 ([some (.retAddr 0), some (.ref 0), some (.ref 69), some (.ref 87), some (.int z), a5, a6], [.int (xs z442.toNatClampNeg), .ref 0], (m, k), hp) _ from ?_)
  refine Ev.step (j := 1227) (s' := ([some (.retAddr 0), some (.ref 0), some (.ref 69), some (.ref 87), some (.int z), a5, a6], [.retAddr 0, .int (xs z442.toNatClampNeg), .ref 0], (m, k), hp)) rfl rfl ?_
  refine Ev.step (j := 1229) (s' := ([some (.retAddr 0), some (.ref 0), some (.ref 69), some (.ref 87), some (.int z), a5, a6], [.int z, .retAddr 0, .int (xs z442.toNatClampNeg), .ref 0], (m, k), hp)) rfl rfl ?_
  refine bs_lit (k := 2) rfl rfl fun z443 hz443 => ?_
  refine bs_add rfl (by omega) (by omega) fun z444 hz444 => ?_
  refine ls_sld rfl (by omega) (by omega) ?_
  refine (show Ev _ 1232 ([some (.retAddr 0), some (.ref 0), some (.ref 69), some (.ref 87), some (.int z), a5, a6], [.int (xs z444.toNatClampNeg), .int (xs z442.toNatClampNeg), .ref 0], (m, k), hp) _ from ?_)
  refine bs_callx (K := kq_X10_drawn_57b5ea) [.ref 0, .int (xs z442.toNatClampNeg), .int (xs z444.toNatClampNeg)] [] rfl (sf_cX ct_X10_drawn_57b5ea) H rfl rfl rfl (bs_rcv (g := 10) H (bs_R.uq H (g := 10) rfl) (by decide) rfl) (ls_room (Nat.le_of_ble_eq_true rfl) (by omega) (by omega)) ?_ (sf_S_nil) fun r446 hp445 thp445 Hhp445 fhp445 ahp445 php445 xhp445 => ?_
  · intro q k h
    match q, h with
    | 0, h => cases h; exact bs_jR (bs_R.uq H (g := 10) rfl)
    | 1, h => cases h; exact sf_j0
    | 2, h => cases h; exact sf_j0
    | q + 3, h => cases h
  obtain ⟨z447, rfl⟩ := bs_anI ahp445
  have E448 := lw_keep H fhp445 rfl rfl rfl rfl rfl hs
  obtain ⟨ew1, hC1, hX1⟩ := pC H (d_drawn hC hD _ _) xhp445 hX
  refine (show Ev _ 1235 ([some (.retAddr 0), some (.ref 0), some (.ref 69), some (.ref 87), some (.int z), a5, a6], [.int z447], (m + 8, k + 138), hp445) _ from ?_)
  refine Ev.step (j := 1236) (s' := ([some (.retAddr 0), some (.ref 0), some (.ref 69), some (.ref 87), some (.int z), a5, a6], [], (m + 8, k + 138), hp445)) rfl rfl ?_
  refine Ev.step (j := 1237) (s' := ([some (.retAddr 0), some (.ref 0), some (.ref 69), some (.ref 87), some (.int z), a5, a6], [.ref 69], (m + 8, k + 138), hp445)) rfl rfl ?_
  refine Ev.step (j := 1238) (s' := ([some (.retAddr 0), some (.ref 0), some (.ref 69), some (.ref 87), some (.int z), a5, a6], [.retAddr 0, .ref 69], (m + 8, k + 138), hp445)) rfl rfl ?_
  refine Ev.step (j := 1240) (s' := ([some (.retAddr 0), some (.ref 0), some (.ref 69), some (.ref 87), some (.int z), a5, a6], [.int z, .retAddr 0, .ref 69], (m + 8, k + 138), hp445)) rfl rfl ?_
  refine bs_lit (k := 1) rfl rfl fun z449 hz449 => ?_
  refine bs_add rfl (by omega) (by omega) fun z450 hz450 => ?_
  refine ls_sld rfl (by omega) (by omega) ?_
  refine (show Ev _ 1243 ([some (.retAddr 0), some (.ref 0), some (.ref 69), some (.ref 87), some (.int z), a5, a6], [.int (xs z450.toNatClampNeg), .ref 69], (m + 8, k + 138), hp445) _ from ?_)
  refine Ev.step (j := 1244) (s' := ([some (.retAddr 0), some (.ref 0), some (.ref 69), some (.ref 87), some (.int z), a5, a6], [.retAddr 0, .int (xs z450.toNatClampNeg), .ref 69], (m + 8, k + 138), hp445)) rfl rfl ?_
  refine Ev.step (j := 1246) (s' := ([some (.retAddr 0), some (.ref 0), some (.ref 69), some (.ref 87), some (.int z), a5, a6], [.int z, .retAddr 0, .int (xs z450.toNatClampNeg), .ref 69], (m + 8, k + 138), hp445)) rfl rfl ?_
  refine bs_lit (k := 2) rfl rfl fun z451 hz451 => ?_
  refine bs_add rfl (by omega) (by omega) fun z452 hz452 => ?_
  refine ls_sld rfl (by omega) (by omega) ?_
  refine (show Ev _ 1249 ([some (.retAddr 0), some (.ref 0), some (.ref 69), some (.ref 87), some (.int z), a5, a6], [.int (xs z452.toNatClampNeg), .int (xs z450.toNatClampNeg), .ref 69], (m + 8, k + 138), hp445) _ from ?_)
  refine bs_callx (K := kq_X11_drawn_334faa) [.ref 69, .int (xs z450.toNatClampNeg), .int (xs z452.toNatClampNeg)] [] rfl (sf_cX ct_X11_drawn_334faa) Hhp445 rfl rfl rfl (bs_rcv (g := 11) Hhp445 (bs_R.uq Hhp445 (g := 11) rfl) (by decide) rfl) (ls_room (Nat.le_of_ble_eq_true rfl) (by omega) (by omega)) ?_ (sf_S_nil) fun r454 hp453 thp453 Hhp453 fhp453 ahp453 php453 xhp453 => ?_
  · intro q k h
    match q, h with
    | 0, h => cases h; exact bs_jR (bs_R.uq Hhp445 (g := 11) rfl)
    | 1, h => cases h; exact sf_j0
    | 2, h => cases h; exact sf_j0
    | q + 3, h => cases h
  obtain ⟨z455, rfl⟩ := bs_anI ahp453
  have E456 := lw_keep Hhp445 fhp453 rfl rfl rfl rfl rfl E448
  rw [show z450 = z442 from Int32.toInt_inj.mp (by omega)] at xhp453
  rw [show z452 = z444 from Int32.toInt_inj.mp (by omega)] at xhp453
  obtain ⟨ew2, hX2, hC2⟩ := pX Hhp445 (e_drawn hX1 hD _ _) xhp453 hC1
  refine (show Ev _ 1252 ([some (.retAddr 0), some (.ref 0), some (.ref 69), some (.ref 87), some (.int z), a5, a6], [.int z455], (m + 8 + 0, k + 138 + 0), hp453) _ from ?_)
  refine Ev.step (j := 1253) (s' := ([some (.retAddr 0), some (.ref 0), some (.ref 69), some (.ref 87), some (.int z), a5, a6], [], (m + 8 + 0, k + 138 + 0), hp453)) rfl rfl ?_
  refine Ev.step (j := 1468) (s' := ([some (.retAddr 0), some (.ref 0), some (.ref 69), some (.ref 87), some (.int z), a5, a6], [], (m + 8 + 0, k + 138 + 0), hp453)) rfl rfl ?_
  exact K _ _ _ _ _ _ Hhp453 ⟨E456, _, (hD.k (INV_dwn hD.2.1 hD.1 hX.T.gb)), hC2, hX2⟩ (by omega) (by omega)
set_option maxRecDepth 100000 in
set_option maxHeartbeats 4000000 in
theorem op_odds {xs : Nat → Int32} {n : Nat} {z : Int32} {a5 a6 : Option Value} {m k : Nat} {hp : ab_H} {t : Nat → Nat} {Q : ab_O → Prop} (H : sf_h t hp) (hs : lw_eq hp) (hz0 : 0 ≤ z.toInt) (hz1 : z.toInt + 6 ≤ n) (hn : n ≤ 3072) (hm : m + 21 ≤ 709736) (hk : k + 410 ≤ 6966897) (K : lw_K xs n z m k Q) : Ev (LT xs n) 1256 ([some (.retAddr 0), some (.ref 0), some (.ref 69), some (.ref 87), some (.int z), a5, a6], [], (m, k), hp) Q := by
  obtain ⟨hs, D, hD, hC, hX⟩ := hs
  refine Ev.step (j := 1257) (s' := ([some (.retAddr 0), some (.ref 0), some (.ref 69), some (.ref 87), some (.int z), a5, a6], [.ref 0], (m, k), hp)) rfl rfl ?_
  refine Ev.step (j := 1258) (s' := ([some (.retAddr 0), some (.ref 0), some (.ref 69), some (.ref 87), some (.int z), a5, a6], [.retAddr 0, .ref 0], (m, k), hp)) rfl rfl ?_
  refine Ev.step (j := 1260) (s' := ([some (.retAddr 0), some (.ref 0), some (.ref 69), some (.ref 87), some (.int z), a5, a6], [.int z, .retAddr 0, .ref 0], (m, k), hp)) rfl rfl ?_
  refine bs_lit (k := 1) rfl rfl fun z457 hz457 => ?_
  refine bs_add rfl (by omega) (by omega) fun z458 hz458 => ?_
  refine ls_sld rfl (by omega) (by omega) ?_
  refine (show Ev _ 1263 ([some (.retAddr 0), some (.ref 0), some (.ref 69), some (.ref 87), some (.int z), a5, a6], [.int (xs z458.toNatClampNeg), .ref 0], (m, k), hp) _ from ?_)
  refine Ev.step (j := 1264) (s' := ([some (.retAddr 0), some (.ref 0), some (.ref 69), some (.ref 87), some (.int z), a5, a6], [.retAddr 0, .int (xs z458.toNatClampNeg), .ref 0], (m, k), hp)) rfl rfl ?_
  refine Ev.step (j := 1266) (s' := ([some (.retAddr 0), some (.ref 0), some (.ref 69), some (.ref 87), some (.int z), a5, a6], [.int z, .retAddr 0, .int (xs z458.toNatClampNeg), .ref 0], (m, k), hp)) rfl rfl ?_
  refine bs_lit (k := 2) rfl rfl fun z459 hz459 => ?_
  refine bs_add rfl (by omega) (by omega) fun z460 hz460 => ?_
  refine ls_sld rfl (by omega) (by omega) ?_
  refine (show Ev _ 1269 ([some (.retAddr 0), some (.ref 0), some (.ref 69), some (.ref 87), some (.int z), a5, a6], [.int (xs z460.toNatClampNeg), .int (xs z458.toNatClampNeg), .ref 0], (m, k), hp) _ from ?_)
  refine Ev.step (j := 1270) (s' := ([some (.retAddr 0), some (.ref 0), some (.ref 69), some (.ref 87), some (.int z), a5, a6], [.retAddr 0, .int (xs z460.toNatClampNeg), .int (xs z458.toNatClampNeg), .ref 0], (m, k), hp)) rfl rfl ?_
  refine Ev.step (j := 1272) (s' := ([some (.retAddr 0), some (.ref 0), some (.ref 69), some (.ref 87), some (.int z), a5, a6], [.int z, .retAddr 0, .int (xs z460.toNatClampNeg), .int (xs z458.toNatClampNeg), .ref 0], (m, k), hp)) rfl rfl ?_
  refine bs_lit (k := 3) rfl rfl fun z461 hz461 => ?_
  refine bs_add rfl (by omega) (by omega) fun z462 hz462 => ?_
  refine ls_sld rfl (by omega) (by omega) ?_
  refine (show Ev _ 1275 ([some (.retAddr 0), some (.ref 0), some (.ref 69), some (.ref 87), some (.int z), a5, a6], [.int (xs z462.toNatClampNeg), .int (xs z460.toNatClampNeg), .int (xs z458.toNatClampNeg), .ref 0], (m, k), hp) _ from ?_)
  refine bs_callx (K := kq_X10_odds_7e6f69) [.ref 0, .int (xs z458.toNatClampNeg), .int (xs z460.toNatClampNeg), .int (xs z462.toNatClampNeg)] [] rfl (sf_cX ct_X10_odds_7e6f69) H rfl rfl rfl (bs_rcv (g := 10) H (bs_R.uq H (g := 10) rfl) (by decide) rfl) (ls_room (Nat.le_of_ble_eq_true rfl) (by omega) (by omega)) ?_ (sf_S_nil) fun r464 hp463 thp463 Hhp463 fhp463 ahp463 php463 xhp463 => ?_
  · intro q k h
    match q, h with
    | 0, h => cases h; exact bs_jR (bs_R.uq H (g := 10) rfl)
    | 1, h => cases h; exact sf_j0
    | 2, h => cases h; exact sf_j0
    | 3, h => cases h; exact sf_j0
    | q + 4, h => cases h
  obtain ⟨z465, rfl⟩ := bs_anI ahp463
  have E466 := lw_keep H fhp463 rfl rfl rfl rfl rfl hs
  obtain ⟨ew1, hC1, hX1⟩ := pC H (d_odds hC hD _ _ _) xhp463 hX
  refine (show Ev _ 1278 ([some (.retAddr 0), some (.ref 0), some (.ref 69), some (.ref 87), some (.int z), a5, a6], [.int z465], (m + 0, k + 0), hp463) _ from ?_)
  refine Ev.step (j := 1279) (s' := ([some (.retAddr 0), some (.ref 0), some (.ref 69), some (.ref 87), some (.int z), a5, a6], [], (m + 0, k + 0), hp463)) rfl rfl ?_
  refine Ev.step (j := 1280) (s' := ([some (.retAddr 0), some (.ref 0), some (.ref 69), some (.ref 87), some (.int z), a5, a6], [.ref 69], (m + 0, k + 0), hp463)) rfl rfl ?_
  refine Ev.step (j := 1281) (s' := ([some (.retAddr 0), some (.ref 0), some (.ref 69), some (.ref 87), some (.int z), a5, a6], [.retAddr 0, .ref 69], (m + 0, k + 0), hp463)) rfl rfl ?_
  refine Ev.step (j := 1283) (s' := ([some (.retAddr 0), some (.ref 0), some (.ref 69), some (.ref 87), some (.int z), a5, a6], [.int z, .retAddr 0, .ref 69], (m + 0, k + 0), hp463)) rfl rfl ?_
  refine bs_lit (k := 1) rfl rfl fun z467 hz467 => ?_
  refine bs_add rfl (by omega) (by omega) fun z468 hz468 => ?_
  refine ls_sld rfl (by omega) (by omega) ?_
  refine (show Ev _ 1286 ([some (.retAddr 0), some (.ref 0), some (.ref 69), some (.ref 87), some (.int z), a5, a6], [.int (xs z468.toNatClampNeg), .ref 69], (m + 0, k + 0), hp463) _ from ?_)
  refine Ev.step (j := 1287) (s' := ([some (.retAddr 0), some (.ref 0), some (.ref 69), some (.ref 87), some (.int z), a5, a6], [.retAddr 0, .int (xs z468.toNatClampNeg), .ref 69], (m + 0, k + 0), hp463)) rfl rfl ?_
  refine Ev.step (j := 1289) (s' := ([some (.retAddr 0), some (.ref 0), some (.ref 69), some (.ref 87), some (.int z), a5, a6], [.int z, .retAddr 0, .int (xs z468.toNatClampNeg), .ref 69], (m + 0, k + 0), hp463)) rfl rfl ?_
  refine bs_lit (k := 2) rfl rfl fun z469 hz469 => ?_
  refine bs_add rfl (by omega) (by omega) fun z470 hz470 => ?_
  refine ls_sld rfl (by omega) (by omega) ?_
  refine (show Ev _ 1292 ([some (.retAddr 0), some (.ref 0), some (.ref 69), some (.ref 87), some (.int z), a5, a6], [.int (xs z470.toNatClampNeg), .int (xs z468.toNatClampNeg), .ref 69], (m + 0, k + 0), hp463) _ from ?_)
  refine Ev.step (j := 1293) (s' := ([some (.retAddr 0), some (.ref 0), some (.ref 69), some (.ref 87), some (.int z), a5, a6], [.retAddr 0, .int (xs z470.toNatClampNeg), .int (xs z468.toNatClampNeg), .ref 69], (m + 0, k + 0), hp463)) rfl rfl ?_
  refine Ev.step (j := 1295) (s' := ([some (.retAddr 0), some (.ref 0), some (.ref 69), some (.ref 87), some (.int z), a5, a6], [.int z, .retAddr 0, .int (xs z470.toNatClampNeg), .int (xs z468.toNatClampNeg), .ref 69], (m + 0, k + 0), hp463)) rfl rfl ?_
  refine bs_lit (k := 3) rfl rfl fun z471 hz471 => ?_
  refine bs_add rfl (by omega) (by omega) fun z472 hz472 => ?_
  refine ls_sld rfl (by omega) (by omega) ?_
  refine (show Ev _ 1298 ([some (.retAddr 0), some (.ref 0), some (.ref 69), some (.ref 87), some (.int z), a5, a6], [.int (xs z472.toNatClampNeg), .int (xs z470.toNatClampNeg), .int (xs z468.toNatClampNeg), .ref 69], (m + 0, k + 0), hp463) _ from ?_)
  refine bs_callx (K := kq_X11_odds_3518ea) [.ref 69, .int (xs z468.toNatClampNeg), .int (xs z470.toNatClampNeg), .int (xs z472.toNatClampNeg)] [] rfl (sf_cX ct_X11_odds_3518ea) Hhp463 rfl rfl rfl (bs_rcv (g := 11) Hhp463 (bs_R.uq Hhp463 (g := 11) rfl) (by decide) rfl) (ls_room (Nat.le_of_ble_eq_true rfl) (by omega) (by omega)) ?_ (sf_S_nil) fun r474 hp473 thp473 Hhp473 fhp473 ahp473 php473 xhp473 => ?_
  · intro q k h
    match q, h with
    | 0, h => cases h; exact bs_jR (bs_R.uq Hhp463 (g := 11) rfl)
    | 1, h => cases h; exact sf_j0
    | 2, h => cases h; exact sf_j0
    | 3, h => cases h; exact sf_j0
    | q + 4, h => cases h
  obtain ⟨z475, rfl⟩ := bs_anI ahp473
  have E476 := lw_keep Hhp463 fhp473 rfl rfl rfl rfl rfl E466
  rw [show z468 = z458 from Int32.toInt_inj.mp (by omega)] at xhp473
  rw [show z470 = z460 from Int32.toInt_inj.mp (by omega)] at xhp473
  rw [show z472 = z462 from Int32.toInt_inj.mp (by omega)] at xhp473
  obtain ⟨ew2, hX2, hC2⟩ := pX Hhp463 (e_odds hX1 hD _ _ _) xhp473 hC1
  refine (show Ev _ 1301 ([some (.retAddr 0), some (.ref 0), some (.ref 69), some (.ref 87), some (.int z), a5, a6], [.int z475], (m + 0 + 0, k + 0 + 0), hp473) _ from ?_)
  refine Ev.step (j := 1302) (s' := ([some (.retAddr 0), some (.ref 0), some (.ref 69), some (.ref 87), some (.int z), a5, a6], [], (m + 0 + 0, k + 0 + 0), hp473)) rfl rfl ?_
  refine Ev.step (j := 1468) (s' := ([some (.retAddr 0), some (.ref 0), some (.ref 69), some (.ref 87), some (.int z), a5, a6], [], (m + 0 + 0, k + 0 + 0), hp473)) rfl rfl ?_
  exact K _ _ _ _ _ _ Hhp473 ⟨E476, _, hD, hC2, hX2⟩ (by omega) (by omega)
set_option maxRecDepth 100000 in
set_option maxHeartbeats 4000000 in
theorem op_log_a {xs : Nat → Int32} {n : Nat} {z : Int32} {a5 a6 : Option Value} {m k : Nat} {hp : ab_H} {t : Nat → Nat} {Q : ab_O → Prop} (H : sf_h t hp) (hs : lw_eq hp) (hz0 : 0 ≤ z.toInt) (hz1 : z.toInt + 6 ≤ n) (hn : n ≤ 3072) (hm : m + 21 ≤ 709736) (hk : k + 410 ≤ 6966897) (h1 : ∀ y : Int32, y.toInt = z.toInt + 1 → 0 ≤ (xs y.toNatClampNeg).toInt ∧ (xs y.toNatClampNeg).toInt ≤ 1) (K : lw_K xs n z m k Q) : Ev (LT xs n) 1305 ([some (.retAddr 0), some (.ref 0), some (.ref 69), some (.ref 87), some (.int z), a5, a6], [], (m, k), hp) Q := by
  obtain ⟨hs, D, hD, hC, hX⟩ := hs
  obtain ⟨tn, htn, hsn, hn2, hbv⟩ := TB_n hs.1
  refine Ev.step (j := 1306) (s' := ([some (.retAddr 0), some (.ref 0), some (.ref 69), some (.ref 87), some (.int z), a5, a6], [.ref 0], (m, k), hp)) rfl rfl ?_
  refine Ev.step (j := 1307) (s' := ([some (.retAddr 0), some (.ref 0), some (.ref 69), some (.ref 87), some (.int z), a5, a6], [.retAddr 0, .ref 0], (m, k), hp)) rfl rfl ?_
  refine Ev.step (j := 1309) (s' := ([some (.retAddr 0), some (.ref 0), some (.ref 69), some (.ref 87), some (.int z), a5, a6], [.int z, .retAddr 0, .ref 0], (m, k), hp)) rfl rfl ?_
  refine bs_lit (k := 1) rfl rfl fun z477 hz477 => ?_
  refine bs_add rfl (by omega) (by omega) fun z478 hz478 => ?_
  refine ls_sld rfl (by omega) (by omega) ?_
  have gz478 := h1 z478 (by omega)
  have ggz478 := n_range (xs z478.toNatClampNeg)
  refine (show Ev _ 1312 ([some (.retAddr 0), some (.ref 0), some (.ref 69), some (.ref 87), some (.int z), a5, a6], [.int (xs z478.toNatClampNeg), .ref 0], (m, k), hp) _ from ?_)
  refine bs_callx (K := kq_X10_log_6a20bc) [.ref 0, .int (xs z478.toNatClampNeg)] [] rfl (sf_cX ct_X10_log_6a20bc) H rfl rfl rfl (bs_rcv (g := 10) H (bs_R.uq H (g := 10) rfl) (by decide) rfl) (ls_room (Nat.le_of_ble_eq_true rfl) (by omega) (by omega)) ?_ (sf_S_cons (sf_s1 (x := ((xs z478.toNatClampNeg)).toInt) rfl (by omega) (by omega)) (sf_S_nil)) fun r480 hp479 thp479 Hhp479 fhp479 ahp479 php479 xhp479 => ?_
  · intro q k h
    match q, h with
    | 0, h => cases h; exact bs_jR (bs_R.uq H (g := 10) rfl)
    | 1, h => cases h; exact sf_j0
    | q + 2, h => cases h
  obtain ⟨z481, rfl⟩ := bs_anI ahp479
  obtain ⟨y482, ey482, uy482, wy482⟩ := (php479 _ (List.mem_of_getElem? (i := 0) rfl)).1 rfl
  replace ey482 : sf_rd hp479 1 1 = some y482 := ey482
  replace uy482 : (0 : Int) ≤ y482 := uy482
  replace wy482 : y482 ≤ (0 : Int) := wy482
  have RS1 := RES_fr H fhp479 rfl hs.2
  have hsm : sf_rd hp479 69 2 = some (tn : Int) := (fhp479.2.2.1 _ (bs_R.uq H (g := 11) (p := 69) rfl).1 _ (by rw [(bs_R.uq H (g := 11) (p := 69) rfl).2]; rfl)).trans hn2
  have hb : bv hp479 70 tn = bv hp 2 tn := (bv_same (fun q => (fhp479.2.2.1 _ (bs_R.uq H (g := 131) (p := 70) rfl).1 _ (by rw [(bs_R.uq H (g := 131) (p := 70) rfl).2]; rfl)))).trans hbv
  refine (show Ev _ 1315 ([some (.retAddr 0), some (.ref 0), some (.ref 69), some (.ref 87), some (.int z), a5, a6], [.int z481], (m + 8, k + 138), hp479) _ from ?_)
  refine Ev.step (j := 1316) (s' := ([some (.retAddr 0), some (.ref 0), some (.ref 69), some (.ref 87), some (.int z), a5, a6], [], (m + 8, k + 138), hp479)) rfl rfl ?_
  refine Ev.step (j := 1317) (s' := ([some (.retAddr 0), some (.ref 0), some (.ref 69), some (.ref 87), some (.int z), a5, a6], [.ref 69], (m + 8, k + 138), hp479)) rfl rfl ?_
  refine Ev.step (j := 1318) (s' := ([some (.retAddr 0), some (.ref 0), some (.ref 69), some (.ref 87), some (.int z), a5, a6], [.retAddr 0, .ref 69], (m + 8, k + 138), hp479)) rfl rfl ?_
  refine Ev.step (j := 1320) (s' := ([some (.retAddr 0), some (.ref 0), some (.ref 69), some (.ref 87), some (.int z), a5, a6], [.int z, .retAddr 0, .ref 69], (m + 8, k + 138), hp479)) rfl rfl ?_
  refine bs_lit (k := 1) rfl rfl fun z483 hz483 => ?_
  refine bs_add rfl (by omega) (by omega) fun z484 hz484 => ?_
  refine ls_sld rfl (by omega) (by omega) ?_
  have gz484 := h1 z484 (by omega)
  have ggz484 := n_range (xs z484.toNatClampNeg)
  refine (show Ev _ 1323 ([some (.retAddr 0), some (.ref 0), some (.ref 69), some (.ref 87), some (.int z), a5, a6], [.int (xs z484.toNatClampNeg), .ref 69], (m + 8, k + 138), hp479) _ from ?_)
  refine bs_callx (K := kq_X11_log_h) [.ref 69, .int (xs z484.toNatClampNeg)] [] rfl (sf_cX ct_X11_log_h) Hhp479 rfl rfl rfl (bs_rcv (g := 11) Hhp479 (bs_R.uq Hhp479 (g := 11) rfl) (by decide) rfl) (ls_room (Nat.le_of_ble_eq_true rfl) (by omega) (by omega)) ?_ (sf_S_cons (sf_s1 (x := ((xs z484.toNatClampNeg)).toInt) rfl (by omega) (by omega)) (sf_S_nil)) fun r486 hp485 thp485 Hhp485 fhp485 ahp485 php485 xhp485 => ?_
  · intro q k h
    match q, h with
    | 0, h => cases h; exact bs_jR (bs_R.uq Hhp479 (g := 11) rfl)
    | 1, h => cases h; exact sf_j0
    | q + 2, h => cases h
  obtain ⟨z487, rfl⟩ := bs_anI ahp485
  obtain ⟨y488, ey488, uy488, wy488⟩ := (php485 _ (List.mem_of_getElem? (i := 0) rfl)).1 rfl
  replace ey488 : sf_rd hp485 69 2 = some y488 := ey488
  replace uy488 : (0 : Int) ≤ y488 := uy488
  replace wy488 : y488 ≤ (0 : Int) := wy488
  have hc2 := (fhp485.2.2.1 _ (bs_R.uq Hhp479 (g := 8) (p := 1) rfl).1 1 (by rw [(bs_R.uq Hhp479 (g := 8) (p := 1) rfl).2]; rfl)).trans ey482
  have E : lw_tb hp485 := ⟨TB_zero (hc2.trans (congrArg some (by omega))) (ey488.trans (congrArg some (by omega))), RES_fr Hhp479 fhp485 rfl RS1⟩
  rw [show z484 = z478 from Int32.toInt_inj.mp (by omega)] at xhp485
  obtain ⟨⟨D2, hD2, hC2, hX2⟩, ef⟩ := lw_log H Hhp479 ce_X8_moveInto_v hD hC hX htn hsn hsm hb xhp479 xhp485
  refine (show Ev _ 1326 ([some (.retAddr 0), some (.ref 0), some (.ref 69), some (.ref 87), some (.int z), a5, a6], [.int z487], (m + 8 + 0, k + 138 + 0), hp485) _ from ?_)
  refine Ev.step (j := 1327) (s' := ([some (.retAddr 0), some (.ref 0), some (.ref 69), some (.ref 87), some (.int z), a5, a6], [], (m + 8 + 0, k + 138 + 0), hp485)) rfl rfl ?_
  refine Ev.step (j := 1468) (s' := ([some (.retAddr 0), some (.ref 0), some (.ref 69), some (.ref 87), some (.int z), a5, a6], [], (m + 8 + 0, k + 138 + 0), hp485)) rfl rfl ?_
  exact K _ _ _ _ _ _ Hhp485 ⟨E, D2, hD2, hC2, hX2⟩ (by omega) (by omega)
set_option maxRecDepth 100000 in
set_option maxHeartbeats 4000000 in
theorem op_log_b {xs : Nat → Int32} {n : Nat} {z : Int32} {a5 a6 : Option Value} {m k : Nat} {hp : ab_H} {t : Nat → Nat} {Q : ab_O → Prop} (H : sf_h t hp) (hs : lw_eq hp) (hz0 : 0 ≤ z.toInt) (hz1 : z.toInt + 6 ≤ n) (hn : n ≤ 3072) (hm : m + 21 ≤ 709736) (hk : k + 410 ≤ 6966897) (h1 : ∀ y : Int32, y.toInt = z.toInt + 1 → (xs y.toNatClampNeg).toInt ≤ -1) (K : lw_K xs n z m k Q) : Ev (LT xs n) 1305 ([some (.retAddr 0), some (.ref 0), some (.ref 69), some (.ref 87), some (.int z), a5, a6], [], (m, k), hp) Q := by
  obtain ⟨hs, D, hD, hC, hX⟩ := hs
  obtain ⟨tn, htn, hsn, hn2, hbv⟩ := TB_n hs.1
  refine Ev.step (j := 1306) (s' := ([some (.retAddr 0), some (.ref 0), some (.ref 69), some (.ref 87), some (.int z), a5, a6], [.ref 0], (m, k), hp)) rfl rfl ?_
  refine Ev.step (j := 1307) (s' := ([some (.retAddr 0), some (.ref 0), some (.ref 69), some (.ref 87), some (.int z), a5, a6], [.retAddr 0, .ref 0], (m, k), hp)) rfl rfl ?_
  refine Ev.step (j := 1309) (s' := ([some (.retAddr 0), some (.ref 0), some (.ref 69), some (.ref 87), some (.int z), a5, a6], [.int z, .retAddr 0, .ref 0], (m, k), hp)) rfl rfl ?_
  refine bs_lit (k := 1) rfl rfl fun z489 hz489 => ?_
  refine bs_add rfl (by omega) (by omega) fun z490 hz490 => ?_
  refine ls_sld rfl (by omega) (by omega) ?_
  have gz490 := h1 z490 (by omega)
  have ggz490 := n_range (xs z490.toNatClampNeg)
  refine (show Ev _ 1312 ([some (.retAddr 0), some (.ref 0), some (.ref 69), some (.ref 87), some (.int z), a5, a6], [.int (xs z490.toNatClampNeg), .ref 0], (m, k), hp) _ from ?_)
  refine bs_callx (K := kq_X10_log_77e69b) [.ref 0, .int (xs z490.toNatClampNeg)] [] rfl (sf_cX ct_X10_log_77e69b) H rfl rfl rfl (bs_rcv (g := 10) H (bs_R.uq H (g := 10) rfl) (by decide) rfl) (ls_room (Nat.le_of_ble_eq_true rfl) (by omega) (by omega)) ?_ (sf_S_cons (sf_s1 (x := ((xs z490.toNatClampNeg)).toInt) rfl (by omega) (by omega)) (sf_S_nil)) fun r492 hp491 thp491 Hhp491 fhp491 ahp491 php491 xhp491 => ?_
  · intro q k h
    match q, h with
    | 0, h => cases h; exact bs_jR (bs_R.uq H (g := 10) rfl)
    | 1, h => cases h; exact sf_j0
    | q + 2, h => cases h
  obtain ⟨z493, rfl⟩ := bs_anI ahp491
  have E494 := lw_keep H fhp491 rfl rfl rfl rfl rfl hs
  have hsm : sf_rd hp491 69 2 = some (tn : Int) := (fhp491.2.2.1 _ (bs_R.uq H (g := 11) (p := 69) rfl).1 _ (by rw [(bs_R.uq H (g := 11) (p := 69) rfl).2]; rfl)).trans hn2
  have hb : bv hp491 70 tn = bv hp 2 tn := (bv_same (fun q => (fhp491.2.2.1 _ (bs_R.uq H (g := 131) (p := 70) rfl).1 _ (by rw [(bs_R.uq H (g := 131) (p := 70) rfl).2]; rfl)))).trans hbv
  refine (show Ev _ 1315 ([some (.retAddr 0), some (.ref 0), some (.ref 69), some (.ref 87), some (.int z), a5, a6], [.int z493], (m + 8, k + 138), hp491) _ from ?_)
  refine Ev.step (j := 1316) (s' := ([some (.retAddr 0), some (.ref 0), some (.ref 69), some (.ref 87), some (.int z), a5, a6], [], (m + 8, k + 138), hp491)) rfl rfl ?_
  refine Ev.step (j := 1317) (s' := ([some (.retAddr 0), some (.ref 0), some (.ref 69), some (.ref 87), some (.int z), a5, a6], [.ref 69], (m + 8, k + 138), hp491)) rfl rfl ?_
  refine Ev.step (j := 1318) (s' := ([some (.retAddr 0), some (.ref 0), some (.ref 69), some (.ref 87), some (.int z), a5, a6], [.retAddr 0, .ref 69], (m + 8, k + 138), hp491)) rfl rfl ?_
  refine Ev.step (j := 1320) (s' := ([some (.retAddr 0), some (.ref 0), some (.ref 69), some (.ref 87), some (.int z), a5, a6], [.int z, .retAddr 0, .ref 69], (m + 8, k + 138), hp491)) rfl rfl ?_
  refine bs_lit (k := 1) rfl rfl fun z495 hz495 => ?_
  refine bs_add rfl (by omega) (by omega) fun z496 hz496 => ?_
  refine ls_sld rfl (by omega) (by omega) ?_
  have gz496 := h1 z496 (by omega)
  have ggz496 := n_range (xs z496.toNatClampNeg)
  refine (show Ev _ 1323 ([some (.retAddr 0), some (.ref 0), some (.ref 69), some (.ref 87), some (.int z), a5, a6], [.int (xs z496.toNatClampNeg), .ref 69], (m + 8, k + 138), hp491) _ from ?_)
  refine bs_callx (K := kq_X11_log_lo) [.ref 69, .int (xs z496.toNatClampNeg)] [] rfl (sf_cX ct_X11_log_lo) Hhp491 rfl rfl rfl (bs_rcv (g := 11) Hhp491 (bs_R.uq Hhp491 (g := 11) rfl) (by decide) rfl) (ls_room (Nat.le_of_ble_eq_true rfl) (by omega) (by omega)) ?_ (sf_S_cons (sf_s1 (x := ((xs z496.toNatClampNeg)).toInt) rfl (by omega) (by omega)) (sf_S_nil)) fun r498 hp497 thp497 Hhp497 fhp497 ahp497 php497 xhp497 => ?_
  · intro q k h
    match q, h with
    | 0, h => cases h; exact bs_jR (bs_R.uq Hhp491 (g := 11) rfl)
    | 1, h => cases h; exact sf_j0
    | q + 2, h => cases h
  obtain ⟨z499, rfl⟩ := bs_anI ahp497
  have E500 := lw_keep Hhp491 fhp497 rfl rfl rfl rfl rfl E494
  rw [show z496 = z490 from Int32.toInt_inj.mp (by omega)] at xhp497
  obtain ⟨⟨D2, hD2, hC2, hX2⟩, ef⟩ := lw_log H Hhp491 ce_X8_moveInto_v hD hC hX htn hsn hsm hb xhp491 xhp497
  refine (show Ev _ 1326 ([some (.retAddr 0), some (.ref 0), some (.ref 69), some (.ref 87), some (.int z), a5, a6], [.int z499], (m + 8 + 0, k + 138 + 0), hp497) _ from ?_)
  refine Ev.step (j := 1327) (s' := ([some (.retAddr 0), some (.ref 0), some (.ref 69), some (.ref 87), some (.int z), a5, a6], [], (m + 8 + 0, k + 138 + 0), hp497)) rfl rfl ?_
  refine Ev.step (j := 1468) (s' := ([some (.retAddr 0), some (.ref 0), some (.ref 69), some (.ref 87), some (.int z), a5, a6], [], (m + 8 + 0, k + 138 + 0), hp497)) rfl rfl ?_
  exact K _ _ _ _ _ _ Hhp497 ⟨E500, D2, hD2, hC2, hX2⟩ (by omega) (by omega)
set_option maxRecDepth 100000 in
set_option maxHeartbeats 4000000 in
theorem op_log_c {xs : Nat → Int32} {n : Nat} {z : Int32} {a5 a6 : Option Value} {m k : Nat} {hp : ab_H} {t : Nat → Nat} {Q : ab_O → Prop} (H : sf_h t hp) (hs : lw_eq hp) (hz0 : 0 ≤ z.toInt) (hz1 : z.toInt + 6 ≤ n) (hn : n ≤ 3072) (hm : m + 21 ≤ 709736) (hk : k + 410 ≤ 6966897) (h1 : ∀ y : Int32, y.toInt = z.toInt + 1 → 2 ≤ (xs y.toNatClampNeg).toInt) (K : lw_K xs n z m k Q) : Ev (LT xs n) 1305 ([some (.retAddr 0), some (.ref 0), some (.ref 69), some (.ref 87), some (.int z), a5, a6], [], (m, k), hp) Q := by
  obtain ⟨hs, D, hD, hC, hX⟩ := hs
  obtain ⟨tn, htn, hsn, hn2, hbv⟩ := TB_n hs.1
  refine Ev.step (j := 1306) (s' := ([some (.retAddr 0), some (.ref 0), some (.ref 69), some (.ref 87), some (.int z), a5, a6], [.ref 0], (m, k), hp)) rfl rfl ?_
  refine Ev.step (j := 1307) (s' := ([some (.retAddr 0), some (.ref 0), some (.ref 69), some (.ref 87), some (.int z), a5, a6], [.retAddr 0, .ref 0], (m, k), hp)) rfl rfl ?_
  refine Ev.step (j := 1309) (s' := ([some (.retAddr 0), some (.ref 0), some (.ref 69), some (.ref 87), some (.int z), a5, a6], [.int z, .retAddr 0, .ref 0], (m, k), hp)) rfl rfl ?_
  refine bs_lit (k := 1) rfl rfl fun z501 hz501 => ?_
  refine bs_add rfl (by omega) (by omega) fun z502 hz502 => ?_
  refine ls_sld rfl (by omega) (by omega) ?_
  have gz502 := h1 z502 (by omega)
  have ggz502 := n_range (xs z502.toNatClampNeg)
  refine (show Ev _ 1312 ([some (.retAddr 0), some (.ref 0), some (.ref 69), some (.ref 87), some (.int z), a5, a6], [.int (xs z502.toNatClampNeg), .ref 0], (m, k), hp) _ from ?_)
  refine bs_callx (K := kq_X10_log_75923d) [.ref 0, .int (xs z502.toNatClampNeg)] [] rfl (sf_cX ct_X10_log_75923d) H rfl rfl rfl (bs_rcv (g := 10) H (bs_R.uq H (g := 10) rfl) (by decide) rfl) (ls_room (Nat.le_of_ble_eq_true rfl) (by omega) (by omega)) ?_ (sf_S_cons (sf_s1 (x := ((xs z502.toNatClampNeg)).toInt) rfl (by omega) (by omega)) (sf_S_nil)) fun r504 hp503 thp503 Hhp503 fhp503 ahp503 php503 xhp503 => ?_
  · intro q k h
    match q, h with
    | 0, h => cases h; exact bs_jR (bs_R.uq H (g := 10) rfl)
    | 1, h => cases h; exact sf_j0
    | q + 2, h => cases h
  obtain ⟨z505, rfl⟩ := bs_anI ahp503
  have E506 := lw_keep H fhp503 rfl rfl rfl rfl rfl hs
  have hsm : sf_rd hp503 69 2 = some (tn : Int) := (fhp503.2.2.1 _ (bs_R.uq H (g := 11) (p := 69) rfl).1 _ (by rw [(bs_R.uq H (g := 11) (p := 69) rfl).2]; rfl)).trans hn2
  have hb : bv hp503 70 tn = bv hp 2 tn := (bv_same (fun q => (fhp503.2.2.1 _ (bs_R.uq H (g := 131) (p := 70) rfl).1 _ (by rw [(bs_R.uq H (g := 131) (p := 70) rfl).2]; rfl)))).trans hbv
  refine (show Ev _ 1315 ([some (.retAddr 0), some (.ref 0), some (.ref 69), some (.ref 87), some (.int z), a5, a6], [.int z505], (m + 8, k + 138), hp503) _ from ?_)
  refine Ev.step (j := 1316) (s' := ([some (.retAddr 0), some (.ref 0), some (.ref 69), some (.ref 87), some (.int z), a5, a6], [], (m + 8, k + 138), hp503)) rfl rfl ?_
  refine Ev.step (j := 1317) (s' := ([some (.retAddr 0), some (.ref 0), some (.ref 69), some (.ref 87), some (.int z), a5, a6], [.ref 69], (m + 8, k + 138), hp503)) rfl rfl ?_
  refine Ev.step (j := 1318) (s' := ([some (.retAddr 0), some (.ref 0), some (.ref 69), some (.ref 87), some (.int z), a5, a6], [.retAddr 0, .ref 69], (m + 8, k + 138), hp503)) rfl rfl ?_
  refine Ev.step (j := 1320) (s' := ([some (.retAddr 0), some (.ref 0), some (.ref 69), some (.ref 87), some (.int z), a5, a6], [.int z, .retAddr 0, .ref 69], (m + 8, k + 138), hp503)) rfl rfl ?_
  refine bs_lit (k := 1) rfl rfl fun z507 hz507 => ?_
  refine bs_add rfl (by omega) (by omega) fun z508 hz508 => ?_
  refine ls_sld rfl (by omega) (by omega) ?_
  have gz508 := h1 z508 (by omega)
  have ggz508 := n_range (xs z508.toNatClampNeg)
  refine (show Ev _ 1323 ([some (.retAddr 0), some (.ref 0), some (.ref 69), some (.ref 87), some (.int z), a5, a6], [.int (xs z508.toNatClampNeg), .ref 69], (m + 8, k + 138), hp503) _ from ?_)
  refine bs_callx (K := kq_X11_log_hi) [.ref 69, .int (xs z508.toNatClampNeg)] [] rfl (sf_cX ct_X11_log_hi) Hhp503 rfl rfl rfl (bs_rcv (g := 11) Hhp503 (bs_R.uq Hhp503 (g := 11) rfl) (by decide) rfl) (ls_room (Nat.le_of_ble_eq_true rfl) (by omega) (by omega)) ?_ (sf_S_cons (sf_s1 (x := ((xs z508.toNatClampNeg)).toInt) rfl (by omega) (by omega)) (sf_S_nil)) fun r510 hp509 thp509 Hhp509 fhp509 ahp509 php509 xhp509 => ?_
  · intro q k h
    match q, h with
    | 0, h => cases h; exact bs_jR (bs_R.uq Hhp503 (g := 11) rfl)
    | 1, h => cases h; exact sf_j0
    | q + 2, h => cases h
  obtain ⟨z511, rfl⟩ := bs_anI ahp509
  have E512 := lw_keep Hhp503 fhp509 rfl rfl rfl rfl rfl E506
  rw [show z508 = z502 from Int32.toInt_inj.mp (by omega)] at xhp509
  obtain ⟨⟨D2, hD2, hC2, hX2⟩, ef⟩ := lw_log H Hhp503 ce_X8_moveInto_v hD hC hX htn hsn hsm hb xhp503 xhp509
  refine (show Ev _ 1326 ([some (.retAddr 0), some (.ref 0), some (.ref 69), some (.ref 87), some (.int z), a5, a6], [.int z511], (m + 8 + 0, k + 138 + 0), hp509) _ from ?_)
  refine Ev.step (j := 1327) (s' := ([some (.retAddr 0), some (.ref 0), some (.ref 69), some (.ref 87), some (.int z), a5, a6], [], (m + 8 + 0, k + 138 + 0), hp509)) rfl rfl ?_
  refine Ev.step (j := 1468) (s' := ([some (.retAddr 0), some (.ref 0), some (.ref 69), some (.ref 87), some (.int z), a5, a6], [], (m + 8 + 0, k + 138 + 0), hp509)) rfl rfl ?_
  exact K _ _ _ _ _ _ Hhp509 ⟨E512, D2, hD2, hC2, hX2⟩ (by omega) (by omega)
set_option maxRecDepth 100000 in
set_option maxHeartbeats 4000000 in
theorem op_logged {xs : Nat → Int32} {n : Nat} {z : Int32} {a5 a6 : Option Value} {m k : Nat} {hp : ab_H} {t : Nat → Nat} {Q : ab_O → Prop} (H : sf_h t hp) (hs : lw_eq hp) (hz0 : 0 ≤ z.toInt) (hz1 : z.toInt + 6 ≤ n) (hn : n ≤ 3072) (hm : m + 21 ≤ 709736) (hk : k + 410 ≤ 6966897) (K : lw_K xs n z m k Q) : Ev (LT xs n) 1330 ([some (.retAddr 0), some (.ref 0), some (.ref 69), some (.ref 87), some (.int z), a5, a6], [], (m, k), hp) Q := by
  obtain ⟨hs, D, hD, hC, hX⟩ := hs
  refine Ev.step (j := 1331) (s' := ([some (.retAddr 0), some (.ref 0), some (.ref 69), some (.ref 87), some (.int z), a5, a6], [.ref 0], (m, k), hp)) rfl rfl ?_
  refine Ev.step (j := 1332) (s' := ([some (.retAddr 0), some (.ref 0), some (.ref 69), some (.ref 87), some (.int z), a5, a6], [.retAddr 0, .ref 0], (m, k), hp)) rfl rfl ?_
  refine Ev.step (j := 1334) (s' := ([some (.retAddr 0), some (.ref 0), some (.ref 69), some (.ref 87), some (.int z), a5, a6], [.int z, .retAddr 0, .ref 0], (m, k), hp)) rfl rfl ?_
  refine bs_lit (k := 1) rfl rfl fun z513 hz513 => ?_
  refine bs_add rfl (by omega) (by omega) fun z514 hz514 => ?_
  refine ls_sld rfl (by omega) (by omega) ?_
  refine (show Ev _ 1337 ([some (.retAddr 0), some (.ref 0), some (.ref 69), some (.ref 87), some (.int z), a5, a6], [.int (xs z514.toNatClampNeg), .ref 0], (m, k), hp) _ from ?_)
  refine bs_call (K := kq_X10_logged_0df2a5) [.ref 0, .int (xs z514.toNatClampNeg)] [] rfl ct_X10_logged_0df2a5 H rfl rfl rfl (bs_rcv (g := 10) H (bs_R.uq H (g := 10) rfl) (by decide) rfl) (ls_room (Nat.le_of_ble_eq_true rfl) (by omega) (by omega)) ?_ (sf_S_nil) fun r516 hp515 thp515 Hhp515 fhp515 ahp515 php515 => ?_
  · intro q k h
    match q, h with
    | 0, h => cases h; exact bs_jR (bs_R.uq H (g := 10) rfl)
    | 1, h => cases h; exact sf_j0
    | q + 2, h => cases h
  obtain ⟨z517, rfl⟩ := bs_anI ahp515
  have E518 := lw_keep H fhp515 rfl rfl rfl rfl rfl hs
  obtain ⟨hC1, kx1⟩ := CRW (by rfl) H Hhp515 fhp515 hC
  have hX1 := kx1 _ hX
  refine (show Ev _ 1340 ([some (.retAddr 0), some (.ref 0), some (.ref 69), some (.ref 87), some (.int z), a5, a6], [.int z517], (m + 0, k + 0), hp515) _ from ?_)
  refine Ev.step (j := 1341) (s' := ([some (.retAddr 0), some (.ref 0), some (.ref 69), some (.ref 87), some (.int z), a5, a6], [], (m + 0, k + 0), hp515)) rfl rfl ?_
  refine Ev.step (j := 1342) (s' := ([some (.retAddr 0), some (.ref 0), some (.ref 69), some (.ref 87), some (.int z), a5, a6], [.ref 69], (m + 0, k + 0), hp515)) rfl rfl ?_
  refine Ev.step (j := 1343) (s' := ([some (.retAddr 0), some (.ref 0), some (.ref 69), some (.ref 87), some (.int z), a5, a6], [.retAddr 0, .ref 69], (m + 0, k + 0), hp515)) rfl rfl ?_
  refine Ev.step (j := 1345) (s' := ([some (.retAddr 0), some (.ref 0), some (.ref 69), some (.ref 87), some (.int z), a5, a6], [.int z, .retAddr 0, .ref 69], (m + 0, k + 0), hp515)) rfl rfl ?_
  refine bs_lit (k := 1) rfl rfl fun z519 hz519 => ?_
  refine bs_add rfl (by omega) (by omega) fun z520 hz520 => ?_
  refine ls_sld rfl (by omega) (by omega) ?_
  refine (show Ev _ 1348 ([some (.retAddr 0), some (.ref 0), some (.ref 69), some (.ref 87), some (.int z), a5, a6], [.int (xs z520.toNatClampNeg), .ref 69], (m + 0, k + 0), hp515) _ from ?_)
  refine bs_call (K := kq_X11_logged_3d45d6) [.ref 69, .int (xs z520.toNatClampNeg)] [] rfl ct_X11_logged_3d45d6 Hhp515 rfl rfl rfl (bs_rcv (g := 11) Hhp515 (bs_R.uq Hhp515 (g := 11) rfl) (by decide) rfl) (ls_room (Nat.le_of_ble_eq_true rfl) (by omega) (by omega)) ?_ (sf_S_nil) fun r522 hp521 thp521 Hhp521 fhp521 ahp521 php521 => ?_
  · intro q k h
    match q, h with
    | 0, h => cases h; exact bs_jR (bs_R.uq Hhp515 (g := 11) rfl)
    | 1, h => cases h; exact sf_j0
    | q + 2, h => cases h
  obtain ⟨z523, rfl⟩ := bs_anI ahp521
  have E524 := lw_keep Hhp515 fhp521 rfl rfl rfl rfl rfl E518
  obtain ⟨hX2, kc2⟩ := XRW (by rfl) (by rfl) Hhp515 Hhp521 fhp521 hC1.c hX1
  have hC2 := kc2 _ hC1
  refine (show Ev _ 1351 ([some (.retAddr 0), some (.ref 0), some (.ref 69), some (.ref 87), some (.int z), a5, a6], [.int z523], (m + 0 + 0, k + 0 + 0), hp521) _ from ?_)
  refine Ev.step (j := 1352) (s' := ([some (.retAddr 0), some (.ref 0), some (.ref 69), some (.ref 87), some (.int z), a5, a6], [], (m + 0 + 0, k + 0 + 0), hp521)) rfl rfl ?_
  refine Ev.step (j := 1468) (s' := ([some (.retAddr 0), some (.ref 0), some (.ref 69), some (.ref 87), some (.int z), a5, a6], [], (m + 0 + 0, k + 0 + 0), hp521)) rfl rfl ?_
  exact K _ _ _ _ _ _ Hhp521 ⟨E524, D, hD, hC2, hX2⟩ (by omega) (by omega)
set_option maxRecDepth 100000 in
set_option maxHeartbeats 4000000 in
theorem op_sentence {xs : Nat → Int32} {n : Nat} {z : Int32} {a5 a6 : Option Value} {m k : Nat} {hp : ab_H} {t : Nat → Nat} {Q : ab_O → Prop} (H : sf_h t hp) (hs : lw_eq hp) (hz0 : 0 ≤ z.toInt) (hz1 : z.toInt + 6 ≤ n) (hn : n ≤ 3072) (hm : m + 21 ≤ 709736) (hk : k + 410 ≤ 6966897) (K : lw_K xs n z m k Q) : Ev (LT xs n) 1355 ([some (.retAddr 0), some (.ref 0), some (.ref 69), some (.ref 87), some (.int z), a5, a6], [], (m, k), hp) Q := by
  obtain ⟨hs, D, hD, hC, hX⟩ := hs
  obtain ⟨tn, htn, hsn, hn2, hbv⟩ := TB_n hs.1
  refine Ev.step (j := 1356) (s' := ([some (.retAddr 0), some (.ref 0), some (.ref 69), some (.ref 87), some (.int z), a5, a6], [.ref 0], (m, k), hp)) rfl rfl ?_
  refine bs_callx (K := kq_X10_sentence_4c18a7) [.ref 0] [] rfl (sf_cX ct_X10_sentence_4c18a7) H rfl rfl rfl (bs_rcv (g := 10) H (bs_R.uq H (g := 10) rfl) (by decide) rfl) (ls_room (Nat.le_of_ble_eq_true rfl) (by omega) (by omega)) ?_ (sf_S_nil) fun r526 hp525 thp525 Hhp525 fhp525 ahp525 php525 xhp525 => ?_
  · intro q k h
    match q, h with
    | 0, h => cases h; exact bs_jR (bs_R.uq H (g := 10) rfl)
    | q + 1, h => cases h
  obtain ⟨z527, rfl⟩ := bs_anI ahp525
  obtain ⟨y528, ey528, uy528, wy528⟩ := (php525 _ (List.mem_of_getElem? (i := 0) rfl)).1 rfl
  replace ey528 : sf_rd hp525 1 1 = some y528 := ey528
  replace uy528 : (0 : Int) ≤ y528 := uy528
  replace wy528 : y528 ≤ (0 : Int) := wy528
  have RS1 := RES_fr H fhp525 rfl hs.2
  have hsm : sf_rd hp525 69 2 = some (tn : Int) := (fhp525.2.2.1 _ (bs_R.uq H (g := 11) (p := 69) rfl).1 _ (by rw [(bs_R.uq H (g := 11) (p := 69) rfl).2]; rfl)).trans hn2
  obtain ⟨-, -, hC1, kx1⟩ := d_sentence H ce_X8_moveInto_v hsn hC _ xhp525
  have hX1 := kx1 _ hX
  refine (show Ev _ 1359 ([some (.retAddr 0), some (.ref 0), some (.ref 69), some (.ref 87), some (.int z), a5, a6], [.int z527], (m + 0, k + 0), hp525) _ from ?_)
  refine Ev.step (j := 1360) (s' := ([some (.retAddr 0), some (.ref 0), some (.ref 69), some (.ref 87), some (.int z), a5, a6], [], (m + 0, k + 0), hp525)) rfl rfl ?_
  refine Ev.step (j := 1361) (s' := ([some (.retAddr 0), some (.ref 0), some (.ref 69), some (.ref 87), some (.int z), a5, a6], [.ref 69], (m + 0, k + 0), hp525)) rfl rfl ?_
  refine bs_call (K := kq_X11_sentence_h) [.ref 69] [] rfl ct_X11_sentence_h Hhp525 rfl rfl rfl (bs_rcv (g := 11) Hhp525 (bs_R.uq Hhp525 (g := 11) rfl) (by decide) rfl) (ls_room (Nat.le_of_ble_eq_true rfl) (by omega) (by omega)) ?_ (sf_S_nil) fun r530 hp529 thp529 Hhp529 fhp529 ahp529 php529 => ?_
  · intro q k h
    match q, h with
    | 0, h => cases h; exact bs_jR (bs_R.uq Hhp525 (g := 11) rfl)
    | q + 1, h => cases h
  obtain ⟨z531, rfl⟩ := bs_anI ahp529
  obtain ⟨y532, ey532, uy532, wy532⟩ := (php529 _ (List.mem_of_getElem? (i := 0) rfl)).1 rfl
  replace ey532 : sf_rd hp529 69 2 = some y532 := ey532
  replace uy532 : (0 : Int) ≤ y532 := uy532
  replace wy532 : y532 ≤ (0 : Int) := wy532
  have hc2 := (fhp529.2.2.1 _ (bs_R.uq Hhp525 (g := 8) (p := 1) rfl).1 1 (by rw [(bs_R.uq Hhp525 (g := 8) (p := 1) rfl).2]; rfl)).trans ey528
  have E : lw_tb hp529 := ⟨TB_zero (hc2.trans (congrArg some (by omega))) (ey532.trans (congrArg some (by omega))), RES_fr Hhp525 fhp529 rfl RS1⟩
  obtain ⟨hX2, kc2⟩ := XRS Hhp525 Hhp529 fhp529 hC1.c hX1
  have hC2 := kc2 _ hC1
  refine (show Ev _ 1364 ([some (.retAddr 0), some (.ref 0), some (.ref 69), some (.ref 87), some (.int z), a5, a6], [.int z531], (m + 0 + 0, k + 0 + 0), hp529) _ from ?_)
  refine Ev.step (j := 1365) (s' := ([some (.retAddr 0), some (.ref 0), some (.ref 69), some (.ref 87), some (.int z), a5, a6], [], (m + 0 + 0, k + 0 + 0), hp529)) rfl rfl ?_
  refine Ev.step (j := 1468) (s' := ([some (.retAddr 0), some (.ref 0), some (.ref 69), some (.ref 87), some (.int z), a5, a6], [], (m + 0 + 0, k + 0 + 0), hp529)) rfl rfl ?_
  exact K _ _ _ _ _ _ Hhp529 ⟨E, D, hD, hC2, hX2⟩ (by omega) (by omega)
set_option maxRecDepth 100000 in
set_option maxHeartbeats 4000000 in
theorem op_said {xs : Nat → Int32} {n : Nat} {z : Int32} {a5 a6 : Option Value} {m k : Nat} {hp : ab_H} {t : Nat → Nat} {Q : ab_O → Prop} (H : sf_h t hp) (hs : lw_eq hp) (hz0 : 0 ≤ z.toInt) (hz1 : z.toInt + 6 ≤ n) (hn : n ≤ 3072) (hm : m + 21 ≤ 709736) (hk : k + 410 ≤ 6966897) (K : lw_K xs n z m k Q) : Ev (LT xs n) 1368 ([some (.retAddr 0), some (.ref 0), some (.ref 69), some (.ref 87), some (.int z), a5, a6], [], (m, k), hp) Q := by
  obtain ⟨hs, D, hD, hC, hX⟩ := hs
  refine Ev.step (j := 1369) (s' := ([some (.retAddr 0), some (.ref 0), some (.ref 69), some (.ref 87), some (.int z), a5, a6], [.ref 0], (m, k), hp)) rfl rfl ?_
  refine Ev.step (j := 1370) (s' := ([some (.retAddr 0), some (.ref 0), some (.ref 69), some (.ref 87), some (.int z), a5, a6], [.retAddr 0, .ref 0], (m, k), hp)) rfl rfl ?_
  refine Ev.step (j := 1372) (s' := ([some (.retAddr 0), some (.ref 0), some (.ref 69), some (.ref 87), some (.int z), a5, a6], [.int z, .retAddr 0, .ref 0], (m, k), hp)) rfl rfl ?_
  refine bs_lit (k := 1) rfl rfl fun z533 hz533 => ?_
  refine bs_add rfl (by omega) (by omega) fun z534 hz534 => ?_
  refine ls_sld rfl (by omega) (by omega) ?_
  refine (show Ev _ 1375 ([some (.retAddr 0), some (.ref 0), some (.ref 69), some (.ref 87), some (.int z), a5, a6], [.int (xs z534.toNatClampNeg), .ref 0], (m, k), hp) _ from ?_)
  refine bs_call (K := kq_X10_said_0df2a5) [.ref 0, .int (xs z534.toNatClampNeg)] [] rfl ct_X10_said_0df2a5 H rfl rfl rfl (bs_rcv (g := 10) H (bs_R.uq H (g := 10) rfl) (by decide) rfl) (ls_room (Nat.le_of_ble_eq_true rfl) (by omega) (by omega)) ?_ (sf_S_nil) fun r536 hp535 thp535 Hhp535 fhp535 ahp535 php535 => ?_
  · intro q k h
    match q, h with
    | 0, h => cases h; exact bs_jR (bs_R.uq H (g := 10) rfl)
    | 1, h => cases h; exact sf_j0
    | q + 2, h => cases h
  obtain ⟨z537, rfl⟩ := bs_anI ahp535
  have E538 := lw_keep H fhp535 rfl rfl rfl rfl rfl hs
  obtain ⟨hC1, kx1⟩ := CRW (by rfl) H Hhp535 fhp535 hC
  have hX1 := kx1 _ hX
  refine (show Ev _ 1378 ([some (.retAddr 0), some (.ref 0), some (.ref 69), some (.ref 87), some (.int z), a5, a6], [.int z537], (m + 0, k + 0), hp535) _ from ?_)
  refine Ev.step (j := 1379) (s' := ([some (.retAddr 0), some (.ref 0), some (.ref 69), some (.ref 87), some (.int z), a5, a6], [], (m + 0, k + 0), hp535)) rfl rfl ?_
  refine Ev.step (j := 1380) (s' := ([some (.retAddr 0), some (.ref 0), some (.ref 69), some (.ref 87), some (.int z), a5, a6], [.ref 69], (m + 0, k + 0), hp535)) rfl rfl ?_
  refine Ev.step (j := 1381) (s' := ([some (.retAddr 0), some (.ref 0), some (.ref 69), some (.ref 87), some (.int z), a5, a6], [.retAddr 0, .ref 69], (m + 0, k + 0), hp535)) rfl rfl ?_
  refine Ev.step (j := 1383) (s' := ([some (.retAddr 0), some (.ref 0), some (.ref 69), some (.ref 87), some (.int z), a5, a6], [.int z, .retAddr 0, .ref 69], (m + 0, k + 0), hp535)) rfl rfl ?_
  refine bs_lit (k := 1) rfl rfl fun z539 hz539 => ?_
  refine bs_add rfl (by omega) (by omega) fun z540 hz540 => ?_
  refine ls_sld rfl (by omega) (by omega) ?_
  refine (show Ev _ 1386 ([some (.retAddr 0), some (.ref 0), some (.ref 69), some (.ref 87), some (.int z), a5, a6], [.int (xs z540.toNatClampNeg), .ref 69], (m + 0, k + 0), hp535) _ from ?_)
  refine bs_call (K := kq_X11_said_3d45d6) [.ref 69, .int (xs z540.toNatClampNeg)] [] rfl ct_X11_said_3d45d6 Hhp535 rfl rfl rfl (bs_rcv (g := 11) Hhp535 (bs_R.uq Hhp535 (g := 11) rfl) (by decide) rfl) (ls_room (Nat.le_of_ble_eq_true rfl) (by omega) (by omega)) ?_ (sf_S_nil) fun r542 hp541 thp541 Hhp541 fhp541 ahp541 php541 => ?_
  · intro q k h
    match q, h with
    | 0, h => cases h; exact bs_jR (bs_R.uq Hhp535 (g := 11) rfl)
    | 1, h => cases h; exact sf_j0
    | q + 2, h => cases h
  obtain ⟨z543, rfl⟩ := bs_anI ahp541
  have E544 := lw_keep Hhp535 fhp541 rfl rfl rfl rfl rfl E538
  obtain ⟨hX2, kc2⟩ := XRW (by rfl) (by rfl) Hhp535 Hhp541 fhp541 hC1.c hX1
  have hC2 := kc2 _ hC1
  refine (show Ev _ 1389 ([some (.retAddr 0), some (.ref 0), some (.ref 69), some (.ref 87), some (.int z), a5, a6], [.int z543], (m + 0 + 0, k + 0 + 0), hp541) _ from ?_)
  refine Ev.step (j := 1390) (s' := ([some (.retAddr 0), some (.ref 0), some (.ref 69), some (.ref 87), some (.int z), a5, a6], [], (m + 0 + 0, k + 0 + 0), hp541)) rfl rfl ?_
  refine Ev.step (j := 1468) (s' := ([some (.retAddr 0), some (.ref 0), some (.ref 69), some (.ref 87), some (.int z), a5, a6], [], (m + 0 + 0, k + 0 + 0), hp541)) rfl rfl ?_
  exact K _ _ _ _ _ _ Hhp541 ⟨E544, D, hD, hC2, hX2⟩ (by omega) (by omega)
set_option maxRecDepth 100000 in
set_option maxHeartbeats 4000000 in
theorem op_image {xs : Nat → Int32} {n : Nat} {z : Int32} {a5 a6 : Option Value} {m k : Nat} {hp : ab_H} {t : Nat → Nat} {Q : ab_O → Prop} (H : sf_h t hp) (hs : lw_eq hp) (hz0 : 0 ≤ z.toInt) (hz1 : z.toInt + 6 ≤ n) (hn : n ≤ 3072) (hm : m + 21 ≤ 709736) (hk : k + 410 ≤ 6966897) (K : lw_K xs n z m k Q) : Ev (LT xs n) 1393 ([some (.retAddr 0), some (.ref 0), some (.ref 69), some (.ref 87), some (.int z), a5, a6], [], (m, k), hp) Q := by
  obtain ⟨hs, D, hD, hC, hX⟩ := hs
  refine Ev.step (j := 1394) (s' := ([some (.retAddr 0), some (.ref 0), some (.ref 69), some (.ref 87), some (.int z), a5, a6], [.ref 0], (m, k), hp)) rfl rfl ?_
  refine Ev.step (j := 1395) (s' := ([some (.retAddr 0), some (.ref 0), some (.ref 69), some (.ref 87), some (.int z), a5, a6], [.retAddr 0, .ref 0], (m, k), hp)) rfl rfl ?_
  refine Ev.step (j := 1397) (s' := ([some (.retAddr 0), some (.ref 0), some (.ref 69), some (.ref 87), some (.int z), a5, a6], [.int z, .retAddr 0, .ref 0], (m, k), hp)) rfl rfl ?_
  refine bs_lit (k := 1) rfl rfl fun z545 hz545 => ?_
  refine bs_add rfl (by omega) (by omega) fun z546 hz546 => ?_
  refine ls_sld rfl (by omega) (by omega) ?_
  refine (show Ev _ 1400 ([some (.retAddr 0), some (.ref 0), some (.ref 69), some (.ref 87), some (.int z), a5, a6], [.int (xs z546.toNatClampNeg), .ref 0], (m, k), hp) _ from ?_)
  refine bs_callx (K := kq_X10_image_h) [.ref 0, .int (xs z546.toNatClampNeg)] [] rfl (sf_cX ct_X10_image_h) H rfl rfl rfl (bs_rcv (g := 10) H (bs_R.uq H (g := 10) rfl) (by decide) rfl) (ls_room (Nat.le_of_ble_eq_true rfl) (by omega) (by omega)) ?_ (sf_S_nil) fun r548 hp547 thp547 Hhp547 fhp547 ahp547 php547 xhp547 => ?_
  · intro q k h
    match q, h with
    | 0, h => cases h; exact bs_jR (bs_R.uq H (g := 10) rfl)
    | 1, h => cases h; exact sf_j0
    | q + 2, h => cases h
  obtain ⟨z549, rfl⟩ := bs_anI ahp547
  have E550 := lw_keep H fhp547 rfl rfl rfl rfl rfl hs
  obtain ⟨ew1, hC1, hX1⟩ := pC H (d_image hC _) xhp547 hX
  refine (show Ev _ 1403 ([some (.retAddr 0), some (.ref 0), some (.ref 69), some (.ref 87), some (.int z), a5, a6], [.int z549], (m + 21, k + 410), hp547) _ from ?_)
  refine Ev.step (j := 1404) (s' := ([some (.retAddr 0), some (.ref 0), some (.ref 69), some (.ref 87), some (.int z), a5, a6], [], (m + 21, k + 410), hp547)) rfl rfl ?_
  refine Ev.step (j := 1405) (s' := ([some (.retAddr 0), some (.ref 0), some (.ref 69), some (.ref 87), some (.int z), a5, a6], [.ref 69], (m + 21, k + 410), hp547)) rfl rfl ?_
  refine Ev.step (j := 1406) (s' := ([some (.retAddr 0), some (.ref 0), some (.ref 69), some (.ref 87), some (.int z), a5, a6], [.retAddr 0, .ref 69], (m + 21, k + 410), hp547)) rfl rfl ?_
  refine Ev.step (j := 1408) (s' := ([some (.retAddr 0), some (.ref 0), some (.ref 69), some (.ref 87), some (.int z), a5, a6], [.int z, .retAddr 0, .ref 69], (m + 21, k + 410), hp547)) rfl rfl ?_
  refine bs_lit (k := 1) rfl rfl fun z551 hz551 => ?_
  refine bs_add rfl (by omega) (by omega) fun z552 hz552 => ?_
  refine ls_sld rfl (by omega) (by omega) ?_
  refine (show Ev _ 1411 ([some (.retAddr 0), some (.ref 0), some (.ref 69), some (.ref 87), some (.int z), a5, a6], [.int (xs z552.toNatClampNeg), .ref 69], (m + 21, k + 410), hp547) _ from ?_)
  refine bs_callx (K := kq_X11_image_h) [.ref 69, .int (xs z552.toNatClampNeg)] [] rfl (sf_cX ct_X11_image_h) Hhp547 rfl rfl rfl (bs_rcv (g := 11) Hhp547 (bs_R.uq Hhp547 (g := 11) rfl) (by decide) rfl) (ls_room (Nat.le_of_ble_eq_true rfl) (by omega) (by omega)) ?_ (sf_S_nil) fun r554 hp553 thp553 Hhp553 fhp553 ahp553 php553 xhp553 => ?_
  · intro q k h
    match q, h with
    | 0, h => cases h; exact bs_jR (bs_R.uq Hhp547 (g := 11) rfl)
    | 1, h => cases h; exact sf_j0
    | q + 2, h => cases h
  obtain ⟨z555, rfl⟩ := bs_anI ahp553
  have E556 := lw_keep Hhp547 fhp553 rfl rfl rfl rfl rfl E550
  rw [show z552 = z546 from Int32.toInt_inj.mp (by omega)] at xhp553
  obtain ⟨ew2, hX2, hC2⟩ := pX Hhp547 (e_image hX1 _) xhp553 hC1
  refine (show Ev _ 1414 ([some (.retAddr 0), some (.ref 0), some (.ref 69), some (.ref 87), some (.int z), a5, a6], [.int z555], (m + 21 + 0, k + 410 + 0), hp553) _ from ?_)
  refine Ev.step (j := 1415) (s' := ([some (.retAddr 0), some (.ref 0), some (.ref 69), some (.ref 87), some (.int z), a5, a6], [], (m + 21 + 0, k + 410 + 0), hp553)) rfl rfl ?_
  refine Ev.step (j := 1468) (s' := ([some (.retAddr 0), some (.ref 0), some (.ref 69), some (.ref 87), some (.int z), a5, a6], [], (m + 21 + 0, k + 410 + 0), hp553)) rfl rfl ?_
  exact K _ _ _ _ _ _ Hhp553 ⟨E556, _, hD.imo, hC2, hX2⟩ (by omega) (by omega)
set_option maxRecDepth 100000 in
set_option maxHeartbeats 4000000 in
theorem op_restore {xs : Nat → Int32} {n : Nat} {z : Int32} {a5 a6 : Option Value} {m k : Nat} {hp : ab_H} {t : Nat → Nat} {Q : ab_O → Prop} (H : sf_h t hp) (hs : lw_eq hp) (hz0 : 0 ≤ z.toInt) (hz1 : z.toInt + 6 ≤ n) (hn : n ≤ 3072) (hm : m + 21 ≤ 709736) (hk : k + 410 ≤ 6966897) (K : lw_K xs n z m k Q) : Ev (LT xs n) 1418 ([some (.retAddr 0), some (.ref 0), some (.ref 69), some (.ref 87), some (.int z), a5, a6], [], (m, k), hp) Q := by
  obtain ⟨hs, D, hD, hC, hX⟩ := hs
  refine Ev.step (j := 1419) (s' := ([some (.retAddr 0), some (.ref 0), some (.ref 69), some (.ref 87), some (.int z), a5, a6], [.ref 0], (m, k), hp)) rfl rfl ?_
  refine Ev.step (j := 1420) (s' := ([some (.retAddr 0), some (.ref 0), some (.ref 69), some (.ref 87), some (.int z), a5, a6], [.retAddr 0, .ref 0], (m, k), hp)) rfl rfl ?_
  refine Ev.step (j := 1422) (s' := ([some (.retAddr 0), some (.ref 0), some (.ref 69), some (.ref 87), some (.int z), a5, a6], [.int z, .retAddr 0, .ref 0], (m, k), hp)) rfl rfl ?_
  refine bs_lit (k := 1) rfl rfl fun z557 hz557 => ?_
  refine bs_add rfl (by omega) (by omega) fun z558 hz558 => ?_
  refine ls_sld rfl (by omega) (by omega) ?_
  refine (show Ev _ 1425 ([some (.retAddr 0), some (.ref 0), some (.ref 69), some (.ref 87), some (.int z), a5, a6], [.int (xs z558.toNatClampNeg), .ref 0], (m, k), hp) _ from ?_)
  refine bs_callx (K := kq_X10_restore_h) [.ref 0, .int (xs z558.toNatClampNeg)] [] rfl (sf_cX ct_X10_restore_h) H rfl rfl rfl (bs_rcv (g := 10) H (bs_R.uq H (g := 10) rfl) (by decide) rfl) (ls_room (Nat.le_of_ble_eq_true rfl) (by omega) (by omega)) ?_ (sf_S_nil) fun r560 hp559 thp559 Hhp559 fhp559 ahp559 php559 xhp559 => ?_
  · intro q k h
    match q, h with
    | 0, h => cases h; exact bs_jR (bs_R.uq H (g := 10) rfl)
    | 1, h => cases h; exact sf_j0
    | q + 2, h => cases h
  obtain ⟨z561, rfl⟩ := bs_anI ahp559
  have E562 := lw_keep H fhp559 rfl rfl rfl rfl rfl hs
  obtain ⟨ew1, hC1, hX1⟩ := pC H (d_restore hC _) xhp559 hX
  refine (show Ev _ 1428 ([some (.retAddr 0), some (.ref 0), some (.ref 69), some (.ref 87), some (.int z), a5, a6], [.int z561], (m + 0, k + 0), hp559) _ from ?_)
  refine Ev.step (j := 1429) (s' := ([some (.retAddr 0), some (.ref 0), some (.ref 69), some (.ref 87), some (.int z), a5, a6], [], (m + 0, k + 0), hp559)) rfl rfl ?_
  refine Ev.step (j := 1430) (s' := ([some (.retAddr 0), some (.ref 0), some (.ref 69), some (.ref 87), some (.int z), a5, a6], [.ref 69], (m + 0, k + 0), hp559)) rfl rfl ?_
  refine Ev.step (j := 1431) (s' := ([some (.retAddr 0), some (.ref 0), some (.ref 69), some (.ref 87), some (.int z), a5, a6], [.retAddr 0, .ref 69], (m + 0, k + 0), hp559)) rfl rfl ?_
  refine Ev.step (j := 1433) (s' := ([some (.retAddr 0), some (.ref 0), some (.ref 69), some (.ref 87), some (.int z), a5, a6], [.int z, .retAddr 0, .ref 69], (m + 0, k + 0), hp559)) rfl rfl ?_
  refine bs_lit (k := 1) rfl rfl fun z563 hz563 => ?_
  refine bs_add rfl (by omega) (by omega) fun z564 hz564 => ?_
  refine ls_sld rfl (by omega) (by omega) ?_
  refine (show Ev _ 1436 ([some (.retAddr 0), some (.ref 0), some (.ref 69), some (.ref 87), some (.int z), a5, a6], [.int (xs z564.toNatClampNeg), .ref 69], (m + 0, k + 0), hp559) _ from ?_)
  refine bs_callx (K := kq_X11_restore_h) [.ref 69, .int (xs z564.toNatClampNeg)] [] rfl (sf_cX ct_X11_restore_h) Hhp559 rfl rfl rfl (bs_rcv (g := 11) Hhp559 (bs_R.uq Hhp559 (g := 11) rfl) (by decide) rfl) (ls_room (Nat.le_of_ble_eq_true rfl) (by omega) (by omega)) ?_ (sf_S_nil) fun r566 hp565 thp565 Hhp565 fhp565 ahp565 php565 xhp565 => ?_
  · intro q k h
    match q, h with
    | 0, h => cases h; exact bs_jR (bs_R.uq Hhp559 (g := 11) rfl)
    | 1, h => cases h; exact sf_j0
    | q + 2, h => cases h
  obtain ⟨z567, rfl⟩ := bs_anI ahp565
  have E568 := lw_keep Hhp559 fhp565 rfl rfl rfl rfl rfl E562
  rw [show z564 = z558 from Int32.toInt_inj.mp (by omega)] at xhp565
  obtain ⟨ew2, hX2, hC2⟩ := pX Hhp559 (e_restore hX1 _) xhp565 hC1
  refine (show Ev _ 1439 ([some (.retAddr 0), some (.ref 0), some (.ref 69), some (.ref 87), some (.int z), a5, a6], [.int z567], (m + 0 + 0, k + 0 + 0), hp565) _ from ?_)
  refine Ev.step (j := 1440) (s' := ([some (.retAddr 0), some (.ref 0), some (.ref 69), some (.ref 87), some (.int z), a5, a6], [], (m + 0 + 0, k + 0 + 0), hp565)) rfl rfl ?_
  refine Ev.step (j := 1468) (s' := ([some (.retAddr 0), some (.ref 0), some (.ref 69), some (.ref 87), some (.int z), a5, a6], [], (m + 0 + 0, k + 0 + 0), hp565)) rfl rfl ?_
  exact K _ _ _ _ _ _ Hhp565 ⟨E568, _, hD.rso, hC2, hX2⟩ (by omega) (by omega)
set_option maxRecDepth 100000 in
set_option maxHeartbeats 4000000 in
theorem op_count {xs : Nat → Int32} {n : Nat} {z : Int32} {a5 a6 : Option Value} {m k : Nat} {hp : ab_H} {t : Nat → Nat} {Q : ab_O → Prop} (H : sf_h t hp) (hs : lw_eq hp) (hz0 : 0 ≤ z.toInt) (hz1 : z.toInt + 6 ≤ n) (hn : n ≤ 3072) (hm : m + 21 ≤ 709736) (hk : k + 410 ≤ 6966897) (K : lw_K xs n z m k Q) : Ev (LT xs n) 1443 ([some (.retAddr 0), some (.ref 0), some (.ref 69), some (.ref 87), some (.int z), a5, a6], [], (m, k), hp) Q := by
  obtain ⟨hs, D, hD, hC, hX⟩ := hs
  obtain ⟨tn, htn, hsn, hn2, hbv⟩ := TB_n hs.1
  refine Ev.step (j := 1444) (s' := ([some (.retAddr 0), some (.ref 0), some (.ref 69), some (.ref 87), some (.int z), a5, a6], [.ref 0], (m, k), hp)) rfl rfl ?_
  refine Ev.step (j := 1445) (s' := ([some (.retAddr 0), some (.ref 0), some (.ref 69), some (.ref 87), some (.int z), a5, a6], [.retAddr 0, .ref 0], (m, k), hp)) rfl rfl ?_
  refine Ev.step (j := 1447) (s' := ([some (.retAddr 0), some (.ref 0), some (.ref 69), some (.ref 87), some (.int z), a5, a6], [.int z, .retAddr 0, .ref 0], (m, k), hp)) rfl rfl ?_
  refine bs_lit (k := 1) rfl rfl fun z569 hz569 => ?_
  refine bs_add rfl (by omega) (by omega) fun z570 hz570 => ?_
  refine ls_sld rfl (by omega) (by omega) ?_
  refine (show Ev _ 1450 ([some (.retAddr 0), some (.ref 0), some (.ref 69), some (.ref 87), some (.int z), a5, a6], [.int (xs z570.toNatClampNeg), .ref 0], (m, k), hp) _ from ?_)
  refine bs_callx (K := kq_X10_count_0df2a5) [.ref 0, .int (xs z570.toNatClampNeg)] [] rfl (sf_cX ct_X10_count_0df2a5) H rfl rfl rfl (bs_rcv (g := 10) H (bs_R.uq H (g := 10) rfl) (by decide) rfl) (ls_room (Nat.le_of_ble_eq_true rfl) (by omega) (by omega)) ?_ (sf_S_nil) fun r572 hp571 thp571 Hhp571 fhp571 ahp571 php571 xhp571 => ?_
  · intro q k h
    match q, h with
    | 0, h => cases h; exact bs_jR (bs_R.uq H (g := 10) rfl)
    | 1, h => cases h; exact sf_j0
    | q + 2, h => cases h
  obtain ⟨z573, rfl⟩ := bs_anI ahp571
  have E574 := lw_keep H fhp571 rfl rfl rfl rfl rfl hs
  have hsm : sf_rd hp571 69 2 = some (tn : Int) := (fhp571.2.2.1 _ (bs_R.uq H (g := 11) (p := 69) rfl).1 _ (by rw [(bs_R.uq H (g := 11) (p := 69) rfl).2]; rfl)).trans hn2
  obtain ⟨ew1, hC1, hX1⟩ := pC H (d_count hC rfl _) xhp571 hX
  refine (show Ev _ 1453 ([some (.retAddr 0), some (.ref 0), some (.ref 69), some (.ref 87), some (.int z), a5, a6], [.int z573], (m + 0, k + 0), hp571) _ from ?_)
  refine Ev.step (j := 1454) (s' := ([some (.retAddr 0), some (.ref 0), some (.ref 69), some (.ref 87), some (.int z), a5, a6], [], (m + 0, k + 0), hp571)) rfl rfl ?_
  refine Ev.step (j := 1455) (s' := ([some (.retAddr 0), some (.ref 0), some (.ref 69), some (.ref 87), some (.int z), a5, a6], [.ref 69], (m + 0, k + 0), hp571)) rfl rfl ?_
  refine Ev.step (j := 1456) (s' := ([some (.retAddr 0), some (.ref 0), some (.ref 69), some (.ref 87), some (.int z), a5, a6], [.retAddr 0, .ref 69], (m + 0, k + 0), hp571)) rfl rfl ?_
  refine Ev.step (j := 1458) (s' := ([some (.retAddr 0), some (.ref 0), some (.ref 69), some (.ref 87), some (.int z), a5, a6], [.int z, .retAddr 0, .ref 69], (m + 0, k + 0), hp571)) rfl rfl ?_
  refine bs_lit (k := 1) rfl rfl fun z575 hz575 => ?_
  refine bs_add rfl (by omega) (by omega) fun z576 hz576 => ?_
  refine ls_sld rfl (by omega) (by omega) ?_
  refine (show Ev _ 1461 ([some (.retAddr 0), some (.ref 0), some (.ref 69), some (.ref 87), some (.int z), a5, a6], [.int (xs z576.toNatClampNeg), .ref 69], (m + 0, k + 0), hp571) _ from ?_)
  refine bs_callx (K := kq_X11_count_3d45d6) [.ref 69, .int (xs z576.toNatClampNeg)] [] rfl (sf_cX ct_X11_count_3d45d6) Hhp571 rfl rfl rfl (bs_rcv (g := 11) Hhp571 (bs_R.uq Hhp571 (g := 11) rfl) (by decide) rfl) (ls_room (Nat.le_of_ble_eq_true rfl) (by omega) (by omega)) ?_ (sf_S_nil) fun r578 hp577 thp577 Hhp577 fhp577 ahp577 php577 xhp577 => ?_
  · intro q k h
    match q, h with
    | 0, h => cases h; exact bs_jR (bs_R.uq Hhp571 (g := 11) rfl)
    | 1, h => cases h; exact sf_j0
    | q + 2, h => cases h
  obtain ⟨z579, rfl⟩ := bs_anI ahp577
  have E580 := lw_keep Hhp571 fhp577 rfl rfl rfl rfl rfl E574
  rw [show z576 = z570 from Int32.toInt_inj.mp (by omega)] at xhp577
  obtain ⟨ew2, hX2, hC2⟩ := pX Hhp571 (e_count hX1 ((nat_rd hsm htn).trans (nat_rd hsn htn).symm) _) xhp577 hC1
  refine (show Ev _ 1464 ([some (.retAddr 0), some (.ref 0), some (.ref 69), some (.ref 87), some (.int z), a5, a6], [.int z579], (m + 0 + 0, k + 0 + 0), hp577) _ from ?_)
  refine Ev.step (j := 1465) (s' := ([some (.retAddr 0), some (.ref 0), some (.ref 69), some (.ref 87), some (.int z), a5, a6], [], (m + 0 + 0, k + 0 + 0), hp577)) rfl rfl ?_
  refine Ev.step (j := 1468) (s' := ([some (.retAddr 0), some (.ref 0), some (.ref 69), some (.ref 87), some (.int z), a5, a6], [], (m + 0 + 0, k + 0 + 0), hp577)) rfl rfl ?_
  exact K _ _ _ _ _ _ Hhp577 ⟨E580, _, hD, hC2, hX2⟩ (by omega) (by omega)
end
-- 66.loop.lean.txt
section
/-! ===== the law's run ===== -/
set_option maxRecDepth 100000 in
set_option maxHeartbeats 4000000 in
theorem law_pre (xs : Nat → Int32) (n : Nat) {Q : ab_O → Prop} (h : Ev (LT xs n) 23 ([some (.retAddr 0), some (.ref 0), some (.ref 69), some (.ref 87), some (.int 0), none, none], [], (88, 8872), H0) Q) : Ev (LT xs n) 0 (ab_en 7 [.retAddr 0], [], (0, 0), (0, ab_h0)) Q := by
  unfold LT at *
  refine Ev.step rfl rfl ?_
  refine Ev.step rfl rfl ?_
  refine Ev.call rfl rfl fr_X10 ?_
  refine Ev.step rfl rfl ?_
  refine Ev.step rfl rfl ?_
  refine Ev.step rfl rfl ?_
  refine Ev.call rfl rfl fr_X11 ?_
  refine Ev.step rfl rfl ?_
  refine Ev.step rfl rfl ?_
  refine Ev.step rfl rfl ?_
  refine Ev.step rfl rfl ?_
  refine Ev.step rfl rfl ?_
  refine Ev.step rfl rfl ?_
  rw [← fr_out] at h
  exact h
theorem lw_eq0 : lw_eq H0 := ⟨⟨⟨0, rfl, rfl, by decide, by decide, fun q hq => absurd hq (by omega)⟩, fun k hk => match k, hk with
  | 0, _ => ⟨_, rfl, by decide⟩
  | 1, _ => ⟨_, rfl, by decide⟩
  | 2, _ => ⟨_, rfl, by decide⟩
  | 3, _ => ⟨_, rfl, by decide⟩
  | 4, _ => ⟨_, rfl, by decide⟩
  | 5, _ => ⟨_, rfl, by decide⟩
  | 6, _ => ⟨_, rfl, by decide⟩
  | 7, _ => ⟨_, rfl, by decide⟩
  | 8, _ => ⟨_, rfl, by decide⟩
  | 9, _ => ⟨_, rfl, by decide⟩
  | 10, _ => ⟨_, rfl, by decide⟩
  | 11, _ => ⟨_, rfl, by decide⟩
  | 12, _ => ⟨_, rfl, by decide⟩
  | 13, _ => ⟨_, rfl, by decide⟩
  | 14, _ => ⟨_, rfl, by decide⟩
  | 15, _ => ⟨_, rfl, by decide⟩
  | 16, _ => ⟨_, rfl, by decide⟩
  | 17, _ => ⟨_, rfl, by decide⟩
  | 18, _ => ⟨_, rfl, by decide⟩
  | 19, _ => ⟨_, rfl, by decide⟩
  | 20, _ => ⟨_, rfl, by decide⟩
  | 21, _ => ⟨_, rfl, by decide⟩
  | 22, _ => ⟨_, rfl, by decide⟩
  | 23, _ => ⟨_, rfl, by decide⟩
  | 24, _ => ⟨_, rfl, by decide⟩
  | k + 25, h => absurd h (by omega)⟩, cx00⟩
set_option maxRecDepth 100000 in
set_option maxHeartbeats 4000000 in
theorem law_loop (xs : Nat → Int32) (n : Nat) (hn : n ≤ 3072) : Ev (LT xs n) 23 ([some (.retAddr 0), some (.ref 0), some (.ref 69), some (.ref 87), some (.int 0), none, none], [], (88, 8872), H0) (fun _ => True) := by
  have hN : (Int32.ofNat n).toInt = n := i_toInt (by omega)
  refine bs_loop (T := LT xs n) (i := 23) (Q := fun _ => True) (ι := Int32 × Option Value × Option Value × Nat × Nat × ab_H × (Nat → Nat)) (fun ⟨z, a5, a6, m, k, hp, t⟩ => ([some (.retAddr 0), some (.ref 0), some (.ref 69), some (.ref 87), some (.int z), a5, a6], [], (m, k), hp)) (fun ⟨z, a5, a6, m, k, hp, t⟩ => sf_h t hp ∧ lw_eq hp ∧ ∃ q : Nat, z.toInt = 6 * q ∧ z.toInt ≤ n ∧ m ≤ 88 + 21 * q ∧ k ≤ 8872 + 410 * q) (fun ⟨z, a5, a6, m, k, hp, t⟩ => (n + 6 - z.toInt).toNat) ?_ (0, none, none, 88, 8872, H0, T0) ⟨sf_h0, lw_eq0, 0, rfl, by show (0 : Int) ≤ n; omega, by omega, by omega⟩
  rintro ⟨z, a5, a6, m, k, hp, t⟩ ⟨H, hs, q, hq, hzn, hm0, hk0⟩ ih
  refine (show Ev _ 23 ([some (.retAddr 0), some (.ref 0), some (.ref 69), some (.ref 87), some (.int z), a5, a6], [], (m, k), hp) _ from ?_)
  have hq0 : q ≤ 512 := by omega
  have hm : m + 21 ≤ 709736 := by omega
  have hk : k + 410 ≤ 6966897 := by omega
  refine Ev.step (j := 25) (s' := ([some (.retAddr 0), some (.ref 0), some (.ref 69), some (.ref 87), some (.int z), a5, a6], [.int z], (m, k), hp)) rfl rfl ?_
  refine Ev.step (j := 26) (s' := ([some (.retAddr 0), some (.ref 0), some (.ref 69), some (.ref 87), some (.int z), a5, a6], [.retAddr 0, .int z], (m, k), hp)) rfl rfl ?_
  refine Ev.step (j := 27) (s' := ([some (.retAddr 0), some (.ref 0), some (.ref 69), some (.ref 87), some (.int z), a5, a6], [.int (Int32.ofNat n), .int z], (m, k), hp)) rfl rfl ?_
  refine bs_lit (k := 6) rfl rfl fun z1 hz1 => ?_
  refine bs_sub rfl (by omega) (by omega) fun z2 hz2 => ?_
  refine bs_gt rfl (fun c => ?_) (fun c => ?_)
  · refine bs_lit (k := 1) rfl rfl fun z3 hz3 => ?_
    refine Ev.ret (o := (some (.int 1), hp)) rfl ?_ trivial
    have e3 : z3 = 1 := Int32.toInt_inj.mp hz3
    subst e3
    show cond (decide ((1 : Int32) = 1) && decide (m ≤ 709736) && decide (k ≤ 6966897)) _ none = _
    rw [decide_eq_true (show m ≤ 709736 by omega), decide_eq_true (show k ≤ 6966897 by omega)]
    rfl
  · have hz0 : 0 ≤ z.toInt := by omega
    have hz1' : z.toInt + 6 ≤ n := by omega
    have K : lw_K xs n z m k (fun _ => True) := fun hp' t' b5 b6 m' k' H' e' hm' hk' => by
      refine bs_iinc 6 rfl rfl rfl rfl (by omega) (by omega) fun z9 hz9 => ?_
      refine (show Ev _ 1471 ([some (.retAddr 0), some (.ref 0), some (.ref 69), some (.ref 87), some (.int z9), b5, b6], [], (m', k'), hp') _ from ?_)
      refine Ev.step (j := 23) (s' := ([some (.retAddr 0), some (.ref 0), some (.ref 69), some (.ref 87), some (.int z9), b5, b6], [], (m', k'), hp')) rfl rfl ?_
      refine ih (z9, b5, b6, m', k', hp', t') ⟨H', e', q + 1, by omega, by omega, by omega, by omega⟩ ?_
      show (n + 6 - z9.toInt).toNat < (n + 6 - z.toInt).toNat
      omega
    refine Ev.step (j := 34) (s' := ([some (.retAddr 0), some (.ref 0), some (.ref 69), some (.ref 87), some (.int z), a5, a6], [.retAddr 0], (m, k), hp)) rfl rfl ?_
    refine Ev.step (j := 36) (s' := ([some (.retAddr 0), some (.ref 0), some (.ref 69), some (.ref 87), some (.int z), a5, a6], [.int z, .retAddr 0], (m, k), hp)) rfl rfl ?_
    refine ls_sld rfl (by omega) (by omega) ?_
    refine bs_lit (k := 63) rfl rfl fun z4 hz4 => ?_
    refine bs_and rfl (by omega) fun z5 hz5 gz5 => ?_
    obtain ⟨j, hj, ej⟩ : ∃ j : Nat, j < 64 ∧ z5.toInt = j := ⟨z5.toInt.toNat, by omega, by omega⟩
    match j, hj, ej with
    | 0, _, ej => exact bs_tab 0 rfl (by omega) rfl (op_feed H hs hz0 hz1' hn hm hk K)
    | 1, _, ej => exact bs_tab 1 rfl (by omega) rfl (op_end H hs hz0 hz1' hn hm hk K)
    | 2, _, ej => exact bs_tab 2 rfl (by omega) rfl (op_strait H hs hz0 hz1' hn hm hk K)
    | 3, _, ej => exact bs_tab 3 rfl (by omega) rfl (op_fault H hs hz0 hz1' hn hm hk K)
    | 4, _, ej => exact bs_tab 4 rfl (by omega) rfl (op_good H hs hz0 hz1' hn hm hk K)
    | 5, _, ej => exact bs_tab 5 rfl (by omega) rfl (op_crossed H hs hz0 hz1' hn hm hk K)
    | 6, _, ej => exact bs_tab 6 rfl (by omega) rfl (op_man H hs hz0 hz1' hn hm hk K)
    | 7, _, ej => exact bs_tab 7 rfl (by omega) rfl (op_apart H hs hz0 hz1' hn hm hk K)
    | 8, _, ej => exact bs_tab 8 rfl (by omega) rfl (op_now H hs hz0 hz1' hn hm hk K)
    | 9, _, ej => exact bs_tab 9 rfl (by omega) rfl (op_hoard H hs hz0 hz1' hn hm hk K)
    | 10, _, ej => exact bs_tab 10 rfl (by omega) rfl (op_bare H hs hz0 hz1' hn hm hk K)
    | 11, _, ej => exact bs_tab 11 rfl (by omega) rfl (op_waste H hs hz0 hz1' hn hm hk K)
    | 12, _, ej => exact bs_tab 12 rfl (by omega) rfl (op_die H hs hz0 hz1' hn hm hk K)
    | 13, _, ej => exact bs_tab 13 rfl (by omega) rfl (op_days H hs hz0 hz1' hn hm hk K)
    | 14, _, ej => exact bs_tab 14 rfl (by omega) rfl (op_undo H hs hz0 hz1' hn hm hk K)
    | 15, _, ej => exact bs_tab 15 rfl (by omega) rfl (op_lacks H hs hz0 hz1' hn hm hk K)
    | 16, _, ej => exact bs_tab 16 rfl (by omega) rfl (op_falses H hs hz0 hz1' hn hm hk K)
    | 17, _, ej => exact bs_tab 17 rfl (by omega) rfl (op_going H hs hz0 hz1' hn hm hk K)
    | 18, _, ej => exact bs_tab 18 rfl (by omega) rfl (op_goes H hs hz0 hz1' hn hm hk K)
    | 19, _, ej => exact bs_tab 19 rfl (by omega) rfl (op_crosses H hs hz0 hz1' hn hm hk K)
    | 20, _, ej => exact bs_tab 20 rfl (by omega) rfl (op_comes H hs hz0 hz1' hn hm hk K)
    | 21, _, ej => exact bs_tab 21 rfl (by omega) rfl (op_without H hs hz0 hz1' hn hm hk K)
    | 22, _, ej => exact bs_tab 22 rfl (by omega) rfl (op_meet H hs hz0 hz1' hn hm hk K)
    | 23, _, ej => exact bs_tab 23 rfl (by omega) rfl (op_loads H hs hz0 hz1' hn hm hk K)
    | 24, _, ej => exact bs_tab 24 rfl (by omega) rfl (op_which H hs hz0 hz1' hn hm hk K)
    | 25, _, ej => exact bs_tab 25 rfl (by omega) rfl (op_settles H hs hz0 hz1' hn hm hk K)
    | 26, _, ej => exact bs_tab 26 rfl (by omega) rfl (op_hunger H hs hz0 hz1' hn hm hk K)
    | 27, _, ej => exact bs_tab 27 rfl (by omega) rfl (op_prices H hs hz0 hz1' hn hm hk K)
    | 28, _, ej => exact bs_tab 28 rfl (by omega) rfl (op_price H hs hz0 hz1' hn hm hk K)
    | 29, _, ej => exact bs_tab 29 rfl (by omega) rfl (op_dearest H hs hz0 hz1' hn hm hk K)
    | 30, _, ej => exact bs_tab 30 rfl (by omega) rfl (op_rats H hs hz0 hz1' hn hm hk K)
    | 31, _, ej => exact bs_tab 31 rfl (by omega) rfl (op_hoarded H hs hz0 hz1' hn hm hk K)
    | 32, _, ej => exact bs_tab 32 rfl (by omega) rfl (op_drawn H hs hz0 hz1' hn hm hk K)
    | 33, _, ej => exact bs_tab 33 rfl (by omega) rfl (op_odds H hs hz0 hz1' hn hm hk K)
    | 34, _, ej =>
      refine bs_tab 34 rfl (by omega) rfl ?_
      obtain ⟨w, hw⟩ : ∃ w : Int32, w.toInt = z.toInt + 1 := ⟨Int32.ofInt (z.toInt + 1), Int32.toInt_ofInt_of_le (by omega) (by omega)⟩
      have hu : ∀ y : Int32, y.toInt = z.toInt + 1 → y = w := fun y hy => Int32.toInt_inj.mp (by omega)
      rcases (show (xs w.toNatClampNeg).toInt ≤ -1 ∨ (0 ≤ (xs w.toNatClampNeg).toInt ∧ (xs w.toNatClampNeg).toInt ≤ 1) ∨ 2 ≤ (xs w.toNatClampNeg).toInt by omega) with h1 | h1 | h1
      · exact op_log_b H hs hz0 hz1' hn hm hk (fun y hy => by rw [hu y hy]; exact h1) K
      · exact op_log_a H hs hz0 hz1' hn hm hk (fun y hy => by rw [hu y hy]; exact h1) K
      · exact op_log_c H hs hz0 hz1' hn hm hk (fun y hy => by rw [hu y hy]; exact h1) K
    | 35, _, ej => exact bs_tab 35 rfl (by omega) rfl (op_logged H hs hz0 hz1' hn hm hk K)
    | 36, _, ej => exact bs_tab 36 rfl (by omega) rfl (op_sentence H hs hz0 hz1' hn hm hk K)
    | 37, _, ej => exact bs_tab 37 rfl (by omega) rfl (op_said H hs hz0 hz1' hn hm hk K)
    | 38, _, ej => exact bs_tab 38 rfl (by omega) rfl (op_image H hs hz0 hz1' hn hm hk K)
    | 39, _, ej => exact bs_tab 39 rfl (by omega) rfl (op_restore H hs hz0 hz1' hn hm hk K)
    | 40, _, ej => exact bs_tab 40 rfl (by omega) rfl (op_count H hs hz0 hz1' hn hm hk K)
    | j + 41, _, ej => exact bs_tabD rfl (by show _ ∨ _ + ((41 : Nat) : Int) ≤ _; omega) (K hp t a5 a6 m k H hs (by omega) (by omega))
theorem whole_start {p : Program} {e : Env} {s : State} {m : MethodId} {below : List Frame} {meth : Method} {c : Code} (l : Launch) (htr : l.stackTraces = false) {b L : Nat} {xs : Nat → Int32} (hL : L ≤ 3072) (C0 : lw_At p s m meth c b L xs) : W p l e room_1 s m #[Value.ref b] below meth c s.heap [] 0 0 (lw_Z below #[Value.ref b] s) (entryFrame m ([Value.ref b] : List Value).toArray 7) := by
  refine start_of l htr C0 ?_
  obtain ⟨f, o, h1, -⟩ := law_pre xs L (law_loop xs L hL)
  exact ⟨f, o, h1⟩
end
