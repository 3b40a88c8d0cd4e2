-- 65.o1.lean.txt
section
set_option maxRecDepth 100000 in
set_option maxHeartbeats 4000000 in
theorem op_undo {xs : Nat → Int32} {n : Nat} {z : Int32} {a5 a6 : Option Value} {m k : Nat} {hp : ab_H} {t : Nat → Nat} {Q : ab_O → Prop} (H : sf_h t hp) (hs : lw_eq hp) (hz0 : 0 ≤ z.toInt) (hz1 : z.toInt + 6 ≤ n) (hn : n ≤ 3072) (hm : m + 21 ≤ 709736) (hk : k + 410 ≤ 6966897) (K : lw_K xs n z m k Q) : Ev (LT xs n) 757 ([some (.retAddr 0), some (.ref 0), some (.ref 69), some (.ref 87), some (.int z), a5, a6], [], (m, k), hp) Q := by
  obtain ⟨hs, D, hD, hC, hX⟩ := hs
  refine Ev.step (j := 758) (s' := ([some (.retAddr 0), some (.ref 0), some (.ref 69), some (.ref 87), some (.int z), a5, a6], [.ref 0], (m, k), hp)) rfl rfl ?_
  refine bs_callx (K := kq_X10_undo_4c18a7) [.ref 0] [] rfl (sf_cX ct_X10_undo_4c18a7) H rfl rfl rfl (bs_rcv (g := 10) H (bs_R.uq H (g := 10) rfl) (by decide) rfl) (ls_room (Nat.le_of_ble_eq_true rfl) (by omega) (by omega)) ?_ (sf_S_nil) fun r222 hp221 thp221 Hhp221 fhp221 ahp221 php221 xhp221 => ?_
  · intro q k h
    match q, h with
    | 0, h => cases h; exact bs_jR (bs_R.uq H (g := 10) rfl)
    | q + 1, h => cases h
  obtain ⟨z223, rfl⟩ := bs_anI ahp221
  have E224 := lw_keep H fhp221 rfl rfl rfl rfl rfl hs
  obtain ⟨ew1, hC1, hX1⟩ := pC H (d_undo hC) xhp221 hX
  refine (show Ev _ 761 ([some (.retAddr 0), some (.ref 0), some (.ref 69), some (.ref 87), some (.int z), a5, a6], [.int z223], (m + 0, k + 0), hp221) _ from ?_)
  refine Ev.step (j := 762) (s' := ([some (.retAddr 0), some (.ref 0), some (.ref 69), some (.ref 87), some (.int z), a5, a6], [], (m + 0, k + 0), hp221)) rfl rfl ?_
  refine Ev.step (j := 763) (s' := ([some (.retAddr 0), some (.ref 0), some (.ref 69), some (.ref 87), some (.int z), a5, a6], [.ref 69], (m + 0, k + 0), hp221)) rfl rfl ?_
  refine bs_callx (K := kq_X11_undo_h) [.ref 69] [] rfl (sf_cX ct_X11_undo_h) Hhp221 rfl rfl rfl (bs_rcv (g := 11) Hhp221 (bs_R.uq Hhp221 (g := 11) rfl) (by decide) rfl) (ls_room (Nat.le_of_ble_eq_true rfl) (by omega) (by omega)) ?_ (sf_S_nil) fun r226 hp225 thp225 Hhp225 fhp225 ahp225 php225 xhp225 => ?_
  · intro q k h
    match q, h with
    | 0, h => cases h; exact bs_jR (bs_R.uq Hhp221 (g := 11) rfl)
    | q + 1, h => cases h
  obtain ⟨z227, rfl⟩ := bs_anI ahp225
  have E228 := lw_keep Hhp221 fhp225 rfl rfl rfl rfl rfl E224
  obtain ⟨ew2, hX2, hC2⟩ := pX Hhp221 (e_undo hX1) xhp225 hC1
  refine (show Ev _ 766 ([some (.retAddr 0), some (.ref 0), some (.ref 69), some (.ref 87), some (.int z), a5, a6], [.int z227], (m + 0 + 0, k + 0 + 0), hp225) _ from ?_)
  refine Ev.step (j := 767) (s' := ([some (.retAddr 0), some (.ref 0), some (.ref 69), some (.ref 87), some (.int z), a5, a6], [], (m + 0 + 0, k + 0 + 0), hp225)) rfl rfl ?_
  refine Ev.step (j := 1468) (s' := ([some (.retAddr 0), some (.ref 0), some (.ref 69), some (.ref 87), some (.int z), a5, a6], [], (m + 0 + 0, k + 0 + 0), hp225)) rfl rfl ?_
  exact K _ _ _ _ _ _ Hhp225 ⟨E228, _, hD.u, hC2, hX2⟩ (by omega) (by omega)
set_option maxRecDepth 100000 in
set_option maxHeartbeats 4000000 in
theorem op_lacks {xs : Nat → Int32} {n : Nat} {z : Int32} {a5 a6 : Option Value} {m k : Nat} {hp : ab_H} {t : Nat → Nat} {Q : ab_O → Prop} (H : sf_h t hp) (hs : lw_eq hp) (hz0 : 0 ≤ z.toInt) (hz1 : z.toInt + 6 ≤ n) (hn : n ≤ 3072) (hm : m + 21 ≤ 709736) (hk : k + 410 ≤ 6966897) (K : lw_K xs n z m k Q) : Ev (LT xs n) 770 ([some (.retAddr 0), some (.ref 0), some (.ref 69), some (.ref 87), some (.int z), a5, a6], [], (m, k), hp) Q := by
  obtain ⟨hs, D, hD, hC, hX⟩ := hs
  refine Ev.step (j := 771) (s' := ([some (.retAddr 0), some (.ref 0), some (.ref 69), some (.ref 87), some (.int z), a5, a6], [.ref 0], (m, k), hp)) rfl rfl ?_
  refine Ev.step (j := 772) (s' := ([some (.retAddr 0), some (.ref 0), some (.ref 69), some (.ref 87), some (.int z), a5, a6], [.retAddr 0, .ref 0], (m, k), hp)) rfl rfl ?_
  refine Ev.step (j := 774) (s' := ([some (.retAddr 0), some (.ref 0), some (.ref 69), some (.ref 87), some (.int z), a5, a6], [.int z, .retAddr 0, .ref 0], (m, k), hp)) rfl rfl ?_
  refine bs_lit (k := 1) rfl rfl fun z229 hz229 => ?_
  refine bs_add rfl (by omega) (by omega) fun z230 hz230 => ?_
  refine ls_sld rfl (by omega) (by omega) ?_
  refine (show Ev _ 777 ([some (.retAddr 0), some (.ref 0), some (.ref 69), some (.ref 87), some (.int z), a5, a6], [.int (xs z230.toNatClampNeg), .ref 0], (m, k), hp) _ from ?_)
  refine bs_callx (K := kq_X10_lacks_0df2a5) [.ref 0, .int (xs z230.toNatClampNeg)] [] rfl (sf_cX ct_X10_lacks_0df2a5) H rfl rfl rfl (bs_rcv (g := 10) H (bs_R.uq H (g := 10) rfl) (by decide) rfl) (ls_room (Nat.le_of_ble_eq_true rfl) (by omega) (by omega)) ?_ (sf_S_nil) fun r232 hp231 thp231 Hhp231 fhp231 ahp231 php231 xhp231 => ?_
  · intro q k h
    match q, h with
    | 0, h => cases h; exact bs_jR (bs_R.uq H (g := 10) rfl)
    | 1, h => cases h; exact sf_j0
    | q + 2, h => cases h
  obtain ⟨z233, rfl⟩ := bs_anI ahp231
  have E234 := lw_keep H fhp231 rfl rfl rfl rfl rfl hs
  obtain ⟨ew1, hC1, hX1⟩ := pC H (d_lacks hC hD _) xhp231 hX
  refine (show Ev _ 780 ([some (.retAddr 0), some (.ref 0), some (.ref 69), some (.ref 87), some (.int z), a5, a6], [.int z233], (m + 0, k + 0), hp231) _ from ?_)
  refine Ev.step (j := 781) (s' := ([some (.retAddr 0), some (.ref 0), some (.ref 69), some (.ref 87), some (.int z), a5, a6], [], (m + 0, k + 0), hp231)) rfl rfl ?_
  refine Ev.step (j := 782) (s' := ([some (.retAddr 0), some (.ref 0), some (.ref 69), some (.ref 87), some (.int z), a5, a6], [.ref 69], (m + 0, k + 0), hp231)) rfl rfl ?_
  refine Ev.step (j := 783) (s' := ([some (.retAddr 0), some (.ref 0), some (.ref 69), some (.ref 87), some (.int z), a5, a6], [.retAddr 0, .ref 69], (m + 0, k + 0), hp231)) rfl rfl ?_
  refine Ev.step (j := 785) (s' := ([some (.retAddr 0), some (.ref 0), some (.ref 69), some (.ref 87), some (.int z), a5, a6], [.int z, .retAddr 0, .ref 69], (m + 0, k + 0), hp231)) rfl rfl ?_
  refine bs_lit (k := 1) rfl rfl fun z235 hz235 => ?_
  refine bs_add rfl (by omega) (by omega) fun z236 hz236 => ?_
  refine ls_sld rfl (by omega) (by omega) ?_
  refine (show Ev _ 788 ([some (.retAddr 0), some (.ref 0), some (.ref 69), some (.ref 87), some (.int z), a5, a6], [.int (xs z236.toNatClampNeg), .ref 69], (m + 0, k + 0), hp231) _ from ?_)
  refine bs_callx (K := kq_X11_lacks_3d45d6) [.ref 69, .int (xs z236.toNatClampNeg)] [] rfl (sf_cX ct_X11_lacks_3d45d6) Hhp231 rfl rfl rfl (bs_rcv (g := 11) Hhp231 (bs_R.uq Hhp231 (g := 11) rfl) (by decide) rfl) (ls_room (Nat.le_of_ble_eq_true rfl) (by omega) (by omega)) ?_ (sf_S_nil) fun r238 hp237 thp237 Hhp237 fhp237 ahp237 php237 xhp237 => ?_
  · intro q k h
    match q, h with
    | 0, h => cases h; exact bs_jR (bs_R.uq Hhp231 (g := 11) rfl)
    | 1, h => cases h; exact sf_j0
    | q + 2, h => cases h
  obtain ⟨z239, rfl⟩ := bs_anI ahp237
  have E240 := lw_keep Hhp231 fhp237 rfl rfl rfl rfl rfl E234
  rw [show z236 = z230 from Int32.toInt_inj.mp (by omega)] at xhp237
  obtain ⟨ew2, hX2, hC2⟩ := pX Hhp231 (e_lacks hX1 hD _) xhp237 hC1
  refine (show Ev _ 791 ([some (.retAddr 0), some (.ref 0), some (.ref 69), some (.ref 87), some (.int z), a5, a6], [.int z239], (m + 0 + 0, k + 0 + 0), hp237) _ from ?_)
  refine Ev.step (j := 792) (s' := ([some (.retAddr 0), some (.ref 0), some (.ref 69), some (.ref 87), some (.int z), a5, a6], [], (m + 0 + 0, k + 0 + 0), hp237)) rfl rfl ?_
  refine Ev.step (j := 1468) (s' := ([some (.retAddr 0), some (.ref 0), some (.ref 69), some (.ref 87), some (.int z), a5, a6], [], (m + 0 + 0, k + 0 + 0), hp237)) rfl rfl ?_
  exact K _ _ _ _ _ _ Hhp237 ⟨E240, _, hD, hC2, hX2⟩ (by omega) (by omega)
set_option maxRecDepth 100000 in
set_option maxHeartbeats 4000000 in
theorem op_falses {xs : Nat → Int32} {n : Nat} {z : Int32} {a5 a6 : Option Value} {m k : Nat} {hp : ab_H} {t : Nat → Nat} {Q : ab_O → Prop} (H : sf_h t hp) (hs : lw_eq hp) (hz0 : 0 ≤ z.toInt) (hz1 : z.toInt + 6 ≤ n) (hn : n ≤ 3072) (hm : m + 21 ≤ 709736) (hk : k + 410 ≤ 6966897) (K : lw_K xs n z m k Q) : Ev (LT xs n) 795 ([some (.retAddr 0), some (.ref 0), some (.ref 69), some (.ref 87), some (.int z), a5, a6], [], (m, k), hp) Q := by
  obtain ⟨hs, D, hD, hC, hX⟩ := hs
  refine Ev.step (j := 796) (s' := ([some (.retAddr 0), some (.ref 0), some (.ref 69), some (.ref 87), some (.int z), a5, a6], [.ref 0], (m, k), hp)) rfl rfl ?_
  refine Ev.step (j := 797) (s' := ([some (.retAddr 0), some (.ref 0), some (.ref 69), some (.ref 87), some (.int z), a5, a6], [.retAddr 0, .ref 0], (m, k), hp)) rfl rfl ?_
  refine Ev.step (j := 799) (s' := ([some (.retAddr 0), some (.ref 0), some (.ref 69), some (.ref 87), some (.int z), a5, a6], [.int z, .retAddr 0, .ref 0], (m, k), hp)) rfl rfl ?_
  refine bs_lit (k := 1) rfl rfl fun z241 hz241 => ?_
  refine bs_add rfl (by omega) (by omega) fun z242 hz242 => ?_
  refine ls_sld rfl (by omega) (by omega) ?_
  refine (show Ev _ 802 ([some (.retAddr 0), some (.ref 0), some (.ref 69), some (.ref 87), some (.int z), a5, a6], [.int (xs z242.toNatClampNeg), .ref 0], (m, k), hp) _ from ?_)
  refine bs_callx (K := kq_X10_falses_0df2a5) [.ref 0, .int (xs z242.toNatClampNeg)] [] rfl (sf_cX ct_X10_falses_0df2a5) H rfl rfl rfl (bs_rcv (g := 10) H (bs_R.uq H (g := 10) rfl) (by decide) rfl) (ls_room (Nat.le_of_ble_eq_true rfl) (by omega) (by omega)) ?_ (sf_S_nil) fun r244 hp243 thp243 Hhp243 fhp243 ahp243 php243 xhp243 => ?_
  · intro q k h
    match q, h with
    | 0, h => cases h; exact bs_jR (bs_R.uq H (g := 10) rfl)
    | 1, h => cases h; exact sf_j0
    | q + 2, h => cases h
  obtain ⟨z245, rfl⟩ := bs_anI ahp243
  have E246 := lw_keep H fhp243 rfl rfl rfl rfl rfl hs
  obtain ⟨ew1, hC1, hX1⟩ := pC H (d_falses hC hD _) xhp243 hX
  refine (show Ev _ 805 ([some (.retAddr 0), some (.ref 0), some (.ref 69), some (.ref 87), some (.int z), a5, a6], [.int z245], (m + 0, k + 0), hp243) _ from ?_)
  refine Ev.step (j := 806) (s' := ([some (.retAddr 0), some (.ref 0), some (.ref 69), some (.ref 87), some (.int z), a5, a6], [], (m + 0, k + 0), hp243)) rfl rfl ?_
  refine Ev.step (j := 807) (s' := ([some (.retAddr 0), some (.ref 0), some (.ref 69), some (.ref 87), some (.int z), a5, a6], [.ref 69], (m + 0, k + 0), hp243)) rfl rfl ?_
  refine Ev.step (j := 808) (s' := ([some (.retAddr 0), some (.ref 0), some (.ref 69), some (.ref 87), some (.int z), a5, a6], [.retAddr 0, .ref 69], (m + 0, k + 0), hp243)) rfl rfl ?_
  refine Ev.step (j := 810) (s' := ([some (.retAddr 0), some (.ref 0), some (.ref 69), some (.ref 87), some (.int z), a5, a6], [.int z, .retAddr 0, .ref 69], (m + 0, k + 0), hp243)) rfl rfl ?_
  refine bs_lit (k := 1) rfl rfl fun z247 hz247 => ?_
  refine bs_add rfl (by omega) (by omega) fun z248 hz248 => ?_
  refine ls_sld rfl (by omega) (by omega) ?_
  refine (show Ev _ 813 ([some (.retAddr 0), some (.ref 0), some (.ref 69), some (.ref 87), some (.int z), a5, a6], [.int (xs z248.toNatClampNeg), .ref 69], (m + 0, k + 0), hp243) _ from ?_)
  refine bs_callx (K := kq_X11_falses_3d45d6) [.ref 69, .int (xs z248.toNatClampNeg)] [] rfl (sf_cX ct_X11_falses_3d45d6) Hhp243 rfl rfl rfl (bs_rcv (g := 11) Hhp243 (bs_R.uq Hhp243 (g := 11) rfl) (by decide) rfl) (ls_room (Nat.le_of_ble_eq_true rfl) (by omega) (by omega)) ?_ (sf_S_nil) fun r250 hp249 thp249 Hhp249 fhp249 ahp249 php249 xhp249 => ?_
  · intro q k h
    match q, h with
    | 0, h => cases h; exact bs_jR (bs_R.uq Hhp243 (g := 11) rfl)
    | 1, h => cases h; exact sf_j0
    | q + 2, h => cases h
  obtain ⟨z251, rfl⟩ := bs_anI ahp249
  have E252 := lw_keep Hhp243 fhp249 rfl rfl rfl rfl rfl E246
  rw [show z248 = z242 from Int32.toInt_inj.mp (by omega)] at xhp249
  obtain ⟨ew2, hX2, hC2⟩ := pX Hhp243 (e_falses hX1 hD _) xhp249 hC1
  refine (show Ev _ 816 ([some (.retAddr 0), some (.ref 0), some (.ref 69), some (.ref 87), some (.int z), a5, a6], [.int z251], (m + 0 + 0, k + 0 + 0), hp249) _ from ?_)
  refine Ev.step (j := 817) (s' := ([some (.retAddr 0), some (.ref 0), some (.ref 69), some (.ref 87), some (.int z), a5, a6], [], (m + 0 + 0, k + 0 + 0), hp249)) rfl rfl ?_
  refine Ev.step (j := 1468) (s' := ([some (.retAddr 0), some (.ref 0), some (.ref 69), some (.ref 87), some (.int z), a5, a6], [], (m + 0 + 0, k + 0 + 0), hp249)) rfl rfl ?_
  exact K _ _ _ _ _ _ Hhp249 ⟨E252, _, hD, hC2, hX2⟩ (by omega) (by omega)
set_option maxRecDepth 100000 in
set_option maxHeartbeats 4000000 in
theorem op_going {xs : Nat → Int32} {n : Nat} {z : Int32} {a5 a6 : Option Value} {m k : Nat} {hp : ab_H} {t : Nat → Nat} {Q : ab_O → Prop} (H : sf_h t hp) (hs : lw_eq hp) (hz0 : 0 ≤ z.toInt) (hz1 : z.toInt + 6 ≤ n) (hn : n ≤ 3072) (hm : m + 21 ≤ 709736) (hk : k + 410 ≤ 6966897) (K : lw_K xs n z m k Q) : Ev (LT xs n) 820 ([some (.retAddr 0), some (.ref 0), some (.ref 69), some (.ref 87), some (.int z), a5, a6], [], (m, k), hp) Q := by
  obtain ⟨hs, D, hD, hC, hX⟩ := hs
  refine Ev.step (j := 821) (s' := ([some (.retAddr 0), some (.ref 0), some (.ref 69), some (.ref 87), some (.int z), a5, a6], [.ref 0], (m, k), hp)) rfl rfl ?_
  refine bs_callx (K := kq_X10_going_4c18a7) [.ref 0] [] rfl (sf_cX ct_X10_going_4c18a7) H rfl rfl rfl (bs_rcv (g := 10) H (bs_R.uq H (g := 10) rfl) (by decide) rfl) (ls_room (Nat.le_of_ble_eq_true rfl) (by omega) (by omega)) ?_ (sf_S_nil) fun r254 hp253 thp253 Hhp253 fhp253 ahp253 php253 xhp253 => ?_
  · intro q k h
    match q, h with
    | 0, h => cases h; exact bs_jR (bs_R.uq H (g := 10) rfl)
    | q + 1, h => cases h
  obtain ⟨z255, rfl⟩ := bs_anI ahp253
  have E256 := lw_keep H fhp253 rfl rfl rfl rfl rfl hs
  obtain ⟨ew1, hC1, hX1⟩ := pC H (d_going hC hD) xhp253 hX
  refine (show Ev _ 824 ([some (.retAddr 0), some (.ref 0), some (.ref 69), some (.ref 87), some (.int z), a5, a6], [.int z255], (m + 0, k + 0), hp253) _ from ?_)
  refine Ev.step (j := 825) (s' := ([some (.retAddr 0), some (.ref 0), some (.ref 69), some (.ref 87), some (.int z), a5, a6], [], (m + 0, k + 0), hp253)) rfl rfl ?_
  refine Ev.step (j := 826) (s' := ([some (.retAddr 0), some (.ref 0), some (.ref 69), some (.ref 87), some (.int z), a5, a6], [.ref 69], (m + 0, k + 0), hp253)) rfl rfl ?_
  refine bs_callx (K := kq_X11_going_6afe8b) [.ref 69] [] rfl (sf_cX ct_X11_going_6afe8b) Hhp253 rfl rfl rfl (bs_rcv (g := 11) Hhp253 (bs_R.uq Hhp253 (g := 11) rfl) (by decide) rfl) (ls_room (Nat.le_of_ble_eq_true rfl) (by omega) (by omega)) ?_ (sf_S_nil) fun r258 hp257 thp257 Hhp257 fhp257 ahp257 php257 xhp257 => ?_
  · intro q k h
    match q, h with
    | 0, h => cases h; exact bs_jR (bs_R.uq Hhp253 (g := 11) rfl)
    | q + 1, h => cases h
  obtain ⟨z259, rfl⟩ := bs_anI ahp257
  have E260 := lw_keep Hhp253 fhp257 rfl rfl rfl rfl rfl E256
  obtain ⟨ew2, hX2, hC2⟩ := pX Hhp253 (e_going hX1 hD) xhp257 hC1
  refine (show Ev _ 829 ([some (.retAddr 0), some (.ref 0), some (.ref 69), some (.ref 87), some (.int z), a5, a6], [.int z259], (m + 0 + 0, k + 0 + 0), hp257) _ from ?_)
  refine Ev.step (j := 830) (s' := ([some (.retAddr 0), some (.ref 0), some (.ref 69), some (.ref 87), some (.int z), a5, a6], [], (m + 0 + 0, k + 0 + 0), hp257)) rfl rfl ?_
  refine Ev.step (j := 1468) (s' := ([some (.retAddr 0), some (.ref 0), some (.ref 69), some (.ref 87), some (.int z), a5, a6], [], (m + 0 + 0, k + 0 + 0), hp257)) rfl rfl ?_
  exact K _ _ _ _ _ _ Hhp257 ⟨E260, _, hD, hC2, hX2⟩ (by omega) (by omega)
set_option maxRecDepth 100000 in
set_option maxHeartbeats 4000000 in
theorem op_goes {xs : Nat → Int32} {n : Nat} {z : Int32} {a5 a6 : Option Value} {m k : Nat} {hp : ab_H} {t : Nat → Nat} {Q : ab_O → Prop} (H : sf_h t hp) (hs : lw_eq hp) (hz0 : 0 ≤ z.toInt) (hz1 : z.toInt + 6 ≤ n) (hn : n ≤ 3072) (hm : m + 21 ≤ 709736) (hk : k + 410 ≤ 6966897) (K : lw_K xs n z m k Q) : Ev (LT xs n) 833 ([some (.retAddr 0), some (.ref 0), some (.ref 69), some (.ref 87), some (.int z), a5, a6], [], (m, k), hp) Q := by
  obtain ⟨hs, D, hD, hC, hX⟩ := hs
  refine Ev.step (j := 834) (s' := ([some (.retAddr 0), some (.ref 0), some (.ref 69), some (.ref 87), some (.int z), a5, a6], [.ref 0], (m, k), hp)) rfl rfl ?_
  refine Ev.step (j := 835) (s' := ([some (.retAddr 0), some (.ref 0), some (.ref 69), some (.ref 87), some (.int z), a5, a6], [.retAddr 0, .ref 0], (m, k), hp)) rfl rfl ?_
  refine Ev.step (j := 837) (s' := ([some (.retAddr 0), some (.ref 0), some (.ref 69), some (.ref 87), some (.int z), a5, a6], [.int z, .retAddr 0, .ref 0], (m, k), hp)) rfl rfl ?_
  refine bs_lit (k := 1) rfl rfl fun z261 hz261 => ?_
  refine bs_add rfl (by omega) (by omega) fun z262 hz262 => ?_
  refine ls_sld rfl (by omega) (by omega) ?_
  refine (show Ev _ 840 ([some (.retAddr 0), some (.ref 0), some (.ref 69), some (.ref 87), some (.int z), a5, a6], [.int (xs z262.toNatClampNeg), .ref 0], (m, k), hp) _ from ?_)
  refine bs_callx (K := kq_X10_goes_0df2a5) [.ref 0, .int (xs z262.toNatClampNeg)] [] rfl (sf_cX ct_X10_goes_0df2a5) H rfl rfl rfl (bs_rcv (g := 10) H (bs_R.uq H (g := 10) rfl) (by decide) rfl) (ls_room (Nat.le_of_ble_eq_true rfl) (by omega) (by omega)) ?_ (sf_S_nil) fun r264 hp263 thp263 Hhp263 fhp263 ahp263 php263 xhp263 => ?_
  · intro q k h
    match q, h with
    | 0, h => cases h; exact bs_jR (bs_R.uq H (g := 10) rfl)
    | 1, h => cases h; exact sf_j0
    | q + 2, h => cases h
  obtain ⟨z265, rfl⟩ := bs_anI ahp263
  have E266 := lw_keep H fhp263 rfl rfl rfl rfl rfl hs
  obtain ⟨ew1, hC1, hX1⟩ := pC H (d_goes hC hD _) xhp263 hX
  refine (show Ev _ 843 ([some (.retAddr 0), some (.ref 0), some (.ref 69), some (.ref 87), some (.int z), a5, a6], [.int z265], (m + 0, k + 0), hp263) _ from ?_)
  refine Ev.step (j := 844) (s' := ([some (.retAddr 0), some (.ref 0), some (.ref 69), some (.ref 87), some (.int z), a5, a6], [], (m + 0, k + 0), hp263)) rfl rfl ?_
  refine Ev.step (j := 845) (s' := ([some (.retAddr 0), some (.ref 0), some (.ref 69), some (.ref 87), some (.int z), a5, a6], [.ref 69], (m + 0, k + 0), hp263)) rfl rfl ?_
  refine Ev.step (j := 846) (s' := ([some (.retAddr 0), some (.ref 0), some (.ref 69), some (.ref 87), some (.int z), a5, a6], [.retAddr 0, .ref 69], (m + 0, k + 0), hp263)) rfl rfl ?_
  refine Ev.step (j := 848) (s' := ([some (.retAddr 0), some (.ref 0), some (.ref 69), some (.ref 87), some (.int z), a5, a6], [.int z, .retAddr 0, .ref 69], (m + 0, k + 0), hp263)) rfl rfl ?_
  refine bs_lit (k := 1) rfl rfl fun z267 hz267 => ?_
  refine bs_add rfl (by omega) (by omega) fun z268 hz268 => ?_
  refine ls_sld rfl (by omega) (by omega) ?_
  refine (show Ev _ 851 ([some (.retAddr 0), some (.ref 0), some (.ref 69), some (.ref 87), some (.int z), a5, a6], [.int (xs z268.toNatClampNeg), .ref 69], (m + 0, k + 0), hp263) _ from ?_)
  refine bs_callx (K := kq_X11_goes_h) [.ref 69, .int (xs z268.toNatClampNeg)] [] rfl (sf_cX ct_X11_goes_h) Hhp263 rfl rfl rfl (bs_rcv (g := 11) Hhp263 (bs_R.uq Hhp263 (g := 11) rfl) (by decide) rfl) (ls_room (Nat.le_of_ble_eq_true rfl) (by omega) (by omega)) ?_ (sf_S_nil) fun r270 hp269 thp269 Hhp269 fhp269 ahp269 php269 xhp269 => ?_
  · intro q k h
    match q, h with
    | 0, h => cases h; exact bs_jR (bs_R.uq Hhp263 (g := 11) rfl)
    | 1, h => cases h; exact sf_j0
    | q + 2, h => cases h
  obtain ⟨z271, rfl⟩ := bs_anI ahp269
  have E272 := lw_keep Hhp263 fhp269 rfl rfl rfl rfl rfl E266
  rw [show z268 = z262 from Int32.toInt_inj.mp (by omega)] at xhp269
  obtain ⟨ew2, hX2, hC2⟩ := pX Hhp263 (e_goes hX1 hD _) xhp269 hC1
  refine (show Ev _ 854 ([some (.retAddr 0), some (.ref 0), some (.ref 69), some (.ref 87), some (.int z), a5, a6], [.int z271], (m + 0 + 0, k + 0 + 0), hp269) _ from ?_)
  refine Ev.step (j := 855) (s' := ([some (.retAddr 0), some (.ref 0), some (.ref 69), some (.ref 87), some (.int z), a5, a6], [], (m + 0 + 0, k + 0 + 0), hp269)) rfl rfl ?_
  refine Ev.step (j := 1468) (s' := ([some (.retAddr 0), some (.ref 0), some (.ref 69), some (.ref 87), some (.int z), a5, a6], [], (m + 0 + 0, k + 0 + 0), hp269)) rfl rfl ?_
  exact K _ _ _ _ _ _ Hhp269 ⟨E272, _, hD, hC2, hX2⟩ (by omega) (by omega)
set_option maxRecDepth 100000 in
set_option maxHeartbeats 4000000 in
theorem op_crosses {xs : Nat → Int32} {n : Nat} {z : Int32} {a5 a6 : Option Value} {m k : Nat} {hp : ab_H} {t : Nat → Nat} {Q : ab_O → Prop} (H : sf_h t hp) (hs : lw_eq hp) (hz0 : 0 ≤ z.toInt) (hz1 : z.toInt + 6 ≤ n) (hn : n ≤ 3072) (hm : m + 21 ≤ 709736) (hk : k + 410 ≤ 6966897) (K : lw_K xs n z m k Q) : Ev (LT xs n) 858 ([some (.retAddr 0), some (.ref 0), some (.ref 69), some (.ref 87), some (.int z), a5, a6], [], (m, k), hp) Q := by
  obtain ⟨hs, D, hD, hC, hX⟩ := hs
  refine Ev.step (j := 859) (s' := ([some (.retAddr 0), some (.ref 0), some (.ref 69), some (.ref 87), some (.int z), a5, a6], [.ref 0], (m, k), hp)) rfl rfl ?_
  refine Ev.step (j := 860) (s' := ([some (.retAddr 0), some (.ref 0), some (.ref 69), some (.ref 87), some (.int z), a5, a6], [.retAddr 0, .ref 0], (m, k), hp)) rfl rfl ?_
  refine Ev.step (j := 862) (s' := ([some (.retAddr 0), some (.ref 0), some (.ref 69), some (.ref 87), some (.int z), a5, a6], [.int z, .retAddr 0, .ref 0], (m, k), hp)) rfl rfl ?_
  refine bs_lit (k := 1) rfl rfl fun z273 hz273 => ?_
  refine bs_add rfl (by omega) (by omega) fun z274 hz274 => ?_
  refine ls_sld rfl (by omega) (by omega) ?_
  refine (show Ev _ 865 ([some (.retAddr 0), some (.ref 0), some (.ref 69), some (.ref 87), some (.int z), a5, a6], [.int (xs z274.toNatClampNeg), .ref 0], (m, k), hp) _ from ?_)
  refine bs_callx (K := kq_X10_crosses_0df2a5) [.ref 0, .int (xs z274.toNatClampNeg)] [] rfl (sf_cX ct_X10_crosses_0df2a5) H rfl rfl rfl (bs_rcv (g := 10) H (bs_R.uq H (g := 10) rfl) (by decide) rfl) (ls_room (Nat.le_of_ble_eq_true rfl) (by omega) (by omega)) ?_ (sf_S_nil) fun r276 hp275 thp275 Hhp275 fhp275 ahp275 php275 xhp275 => ?_
  · intro q k h
    match q, h with
    | 0, h => cases h; exact bs_jR (bs_R.uq H (g := 10) rfl)
    | 1, h => cases h; exact sf_j0
    | q + 2, h => cases h
  obtain ⟨z277, rfl⟩ := bs_anI ahp275
  have E278 := lw_keep H fhp275 rfl rfl rfl rfl rfl hs
  obtain ⟨ew1, hC1, hX1⟩ := pC H (d_crosses hC hD _) xhp275 hX
  refine (show Ev _ 868 ([some (.retAddr 0), some (.ref 0), some (.ref 69), some (.ref 87), some (.int z), a5, a6], [.int z277], (m + 0, k + 0), hp275) _ from ?_)
  refine Ev.step (j := 869) (s' := ([some (.retAddr 0), some (.ref 0), some (.ref 69), some (.ref 87), some (.int z), a5, a6], [], (m + 0, k + 0), hp275)) rfl rfl ?_
  refine Ev.step (j := 870) (s' := ([some (.retAddr 0), some (.ref 0), some (.ref 69), some (.ref 87), some (.int z), a5, a6], [.ref 69], (m + 0, k + 0), hp275)) rfl rfl ?_
  refine Ev.step (j := 871) (s' := ([some (.retAddr 0), some (.ref 0), some (.ref 69), some (.ref 87), some (.int z), a5, a6], [.retAddr 0, .ref 69], (m + 0, k + 0), hp275)) rfl rfl ?_
  refine Ev.step (j := 873) (s' := ([some (.retAddr 0), some (.ref 0), some (.ref 69), some (.ref 87), some (.int z), a5, a6], [.int z, .retAddr 0, .ref 69], (m + 0, k + 0), hp275)) rfl rfl ?_
  refine bs_lit (k := 1) rfl rfl fun z279 hz279 => ?_
  refine bs_add rfl (by omega) (by omega) fun z280 hz280 => ?_
  refine ls_sld rfl (by omega) (by omega) ?_
  refine (show Ev _ 876 ([some (.retAddr 0), some (.ref 0), some (.ref 69), some (.ref 87), some (.int z), a5, a6], [.int (xs z280.toNatClampNeg), .ref 69], (m + 0, k + 0), hp275) _ from ?_)
  refine bs_callx (K := kq_X11_crosses_3d45d6) [.ref 69, .int (xs z280.toNatClampNeg)] [] rfl (sf_cX ct_X11_crosses_3d45d6) Hhp275 rfl rfl rfl (bs_rcv (g := 11) Hhp275 (bs_R.uq Hhp275 (g := 11) rfl) (by decide) rfl) (ls_room (Nat.le_of_ble_eq_true rfl) (by omega) (by omega)) ?_ (sf_S_nil) fun r282 hp281 thp281 Hhp281 fhp281 ahp281 php281 xhp281 => ?_
  · intro q k h
    match q, h with
    | 0, h => cases h; exact bs_jR (bs_R.uq Hhp275 (g := 11) rfl)
    | 1, h => cases h; exact sf_j0
    | q + 2, h => cases h
  obtain ⟨z283, rfl⟩ := bs_anI ahp281
  have E284 := lw_keep Hhp275 fhp281 rfl rfl rfl rfl rfl E278
  rw [show z280 = z274 from Int32.toInt_inj.mp (by omega)] at xhp281
  obtain ⟨ew2, hX2, hC2⟩ := pX Hhp275 (e_crosses hX1 hD _) xhp281 hC1
  refine (show Ev _ 879 ([some (.retAddr 0), some (.ref 0), some (.ref 69), some (.ref 87), some (.int z), a5, a6], [.int z283], (m + 0 + 0, k + 0 + 0), hp281) _ from ?_)
  refine Ev.step (j := 880) (s' := ([some (.retAddr 0), some (.ref 0), some (.ref 69), some (.ref 87), some (.int z), a5, a6], [], (m + 0 + 0, k + 0 + 0), hp281)) rfl rfl ?_
  refine Ev.step (j := 1468) (s' := ([some (.retAddr 0), some (.ref 0), some (.ref 69), some (.ref 87), some (.int z), a5, a6], [], (m + 0 + 0, k + 0 + 0), hp281)) rfl rfl ?_
  exact K _ _ _ _ _ _ Hhp281 ⟨E284, _, hD, hC2, hX2⟩ (by omega) (by omega)
set_option maxRecDepth 100000 in
set_option maxHeartbeats 4000000 in
theorem op_comes {xs : Nat → Int32} {n : Nat} {z : Int32} {a5 a6 : Option Value} {m k : Nat} {hp : ab_H} {t : Nat → Nat} {Q : ab_O → Prop} (H : sf_h t hp) (hs : lw_eq hp) (hz0 : 0 ≤ z.toInt) (hz1 : z.toInt + 6 ≤ n) (hn : n ≤ 3072) (hm : m + 21 ≤ 709736) (hk : k + 410 ≤ 6966897) (K : lw_K xs n z m k Q) : Ev (LT xs n) 883 ([some (.retAddr 0), some (.ref 0), some (.ref 69), some (.ref 87), some (.int z), a5, a6], [], (m, k), hp) Q := by
  obtain ⟨hs, D, hD, hC, hX⟩ := hs
  refine Ev.step (j := 884) (s' := ([some (.retAddr 0), some (.ref 0), some (.ref 69), some (.ref 87), some (.int z), a5, a6], [.ref 0], (m, k), hp)) rfl rfl ?_
  refine Ev.step (j := 885) (s' := ([some (.retAddr 0), some (.ref 0), some (.ref 69), some (.ref 87), some (.int z), a5, a6], [.retAddr 0, .ref 0], (m, k), hp)) rfl rfl ?_
  refine Ev.step (j := 887) (s' := ([some (.retAddr 0), some (.ref 0), some (.ref 69), some (.ref 87), some (.int z), a5, a6], [.int z, .retAddr 0, .ref 0], (m, k), hp)) rfl rfl ?_
  refine bs_lit (k := 1) rfl rfl fun z285 hz285 => ?_
  refine bs_add rfl (by omega) (by omega) fun z286 hz286 => ?_
  refine ls_sld rfl (by omega) (by omega) ?_
  refine (show Ev _ 890 ([some (.retAddr 0), some (.ref 0), some (.ref 69), some (.ref 87), some (.int z), a5, a6], [.int (xs z286.toNatClampNeg), .ref 0], (m, k), hp) _ from ?_)
  refine Ev.step (j := 891) (s' := ([some (.retAddr 0), some (.ref 0), some (.ref 69), some (.ref 87), some (.int z), a5, a6], [.retAddr 0, .int (xs z286.toNatClampNeg), .ref 0], (m, k), hp)) rfl rfl ?_
  refine Ev.step (j := 893) (s' := ([some (.retAddr 0), some (.ref 0), some (.ref 69), some (.ref 87), some (.int z), a5, a6], [.int z, .retAddr 0, .int (xs z286.toNatClampNeg), .ref 0], (m, k), hp)) rfl rfl ?_
  refine bs_lit (k := 2) rfl rfl fun z287 hz287 => ?_
  refine bs_add rfl (by omega) (by omega) fun z288 hz288 => ?_
  refine ls_sld rfl (by omega) (by omega) ?_
  refine (show Ev _ 896 ([some (.retAddr 0), some (.ref 0), some (.ref 69), some (.ref 87), some (.int z), a5, a6], [.int (xs z288.toNatClampNeg), .int (xs z286.toNatClampNeg), .ref 0], (m, k), hp) _ from ?_)
  refine bs_callx (K := kq_X10_comes_57b5ea) [.ref 0, .int (xs z286.toNatClampNeg), .int (xs z288.toNatClampNeg)] [] rfl (sf_cX ct_X10_comes_57b5ea) H rfl rfl rfl (bs_rcv (g := 10) H (bs_R.uq H (g := 10) rfl) (by decide) rfl) (ls_room (Nat.le_of_ble_eq_true rfl) (by omega) (by omega)) ?_ (sf_S_nil) fun r290 hp289 thp289 Hhp289 fhp289 ahp289 php289 xhp289 => ?_
  · intro q k h
    match q, h with
    | 0, h => cases h; exact bs_jR (bs_R.uq H (g := 10) rfl)
    | 1, h => cases h; exact sf_j0
    | 2, h => cases h; exact sf_j0
    | q + 3, h => cases h
  obtain ⟨z291, rfl⟩ := bs_anI ahp289
  have E292 := lw_keep H fhp289 rfl rfl rfl rfl rfl hs
  obtain ⟨ew1, hC1, hX1⟩ := pC H (d_comes hC hD _ _) xhp289 hX
  refine (show Ev _ 899 ([some (.retAddr 0), some (.ref 0), some (.ref 69), some (.ref 87), some (.int z), a5, a6], [.int z291], (m + 0, k + 0), hp289) _ from ?_)
  refine Ev.step (j := 900) (s' := ([some (.retAddr 0), some (.ref 0), some (.ref 69), some (.ref 87), some (.int z), a5, a6], [], (m + 0, k + 0), hp289)) rfl rfl ?_
  refine Ev.step (j := 901) (s' := ([some (.retAddr 0), some (.ref 0), some (.ref 69), some (.ref 87), some (.int z), a5, a6], [.ref 69], (m + 0, k + 0), hp289)) rfl rfl ?_
  refine Ev.step (j := 902) (s' := ([some (.retAddr 0), some (.ref 0), some (.ref 69), some (.ref 87), some (.int z), a5, a6], [.retAddr 0, .ref 69], (m + 0, k + 0), hp289)) rfl rfl ?_
  refine Ev.step (j := 904) (s' := ([some (.retAddr 0), some (.ref 0), some (.ref 69), some (.ref 87), some (.int z), a5, a6], [.int z, .retAddr 0, .ref 69], (m + 0, k + 0), hp289)) rfl rfl ?_
  refine bs_lit (k := 1) rfl rfl fun z293 hz293 => ?_
  refine bs_add rfl (by omega) (by omega) fun z294 hz294 => ?_
  refine ls_sld rfl (by omega) (by omega) ?_
  refine (show Ev _ 907 ([some (.retAddr 0), some (.ref 0), some (.ref 69), some (.ref 87), some (.int z), a5, a6], [.int (xs z294.toNatClampNeg), .ref 69], (m + 0, k + 0), hp289) _ from ?_)
  refine Ev.step (j := 908) (s' := ([some (.retAddr 0), some (.ref 0), some (.ref 69), some (.ref 87), some (.int z), a5, a6], [.retAddr 0, .int (xs z294.toNatClampNeg), .ref 69], (m + 0, k + 0), hp289)) rfl rfl ?_
  refine Ev.step (j := 910) (s' := ([some (.retAddr 0), some (.ref 0), some (.ref 69), some (.ref 87), some (.int z), a5, a6], [.int z, .retAddr 0, .int (xs z294.toNatClampNeg), .ref 69], (m + 0, k + 0), hp289)) rfl rfl ?_
  refine bs_lit (k := 2) rfl rfl fun z295 hz295 => ?_
  refine bs_add rfl (by omega) (by omega) fun z296 hz296 => ?_
  refine ls_sld rfl (by omega) (by omega) ?_
  refine (show Ev _ 913 ([some (.retAddr 0), some (.ref 0), some (.ref 69), some (.ref 87), some (.int z), a5, a6], [.int (xs z296.toNatClampNeg), .int (xs z294.toNatClampNeg), .ref 69], (m + 0, k + 0), hp289) _ from ?_)
  refine bs_callx (K := kq_X11_comes_334faa) [.ref 69, .int (xs z294.toNatClampNeg), .int (xs z296.toNatClampNeg)] [] rfl (sf_cX ct_X11_comes_334faa) Hhp289 rfl rfl rfl (bs_rcv (g := 11) Hhp289 (bs_R.uq Hhp289 (g := 11) rfl) (by decide) rfl) (ls_room (Nat.le_of_ble_eq_true rfl) (by omega) (by omega)) ?_ (sf_S_nil) fun r298 hp297 thp297 Hhp297 fhp297 ahp297 php297 xhp297 => ?_
  · intro q k h
    match q, h with
    | 0, h => cases h; exact bs_jR (bs_R.uq Hhp289 (g := 11) rfl)
    | 1, h => cases h; exact sf_j0
    | 2, h => cases h; exact sf_j0
    | q + 3, h => cases h
  obtain ⟨z299, rfl⟩ := bs_anI ahp297
  have E300 := lw_keep Hhp289 fhp297 rfl rfl rfl rfl rfl E292
  rw [show z294 = z286 from Int32.toInt_inj.mp (by omega)] at xhp297
  rw [show z296 = z288 from Int32.toInt_inj.mp (by omega)] at xhp297
  obtain ⟨ew2, hX2, hC2⟩ := pX Hhp289 (e_comes hX1 hD _ _) xhp297 hC1
  refine (show Ev _ 916 ([some (.retAddr 0), some (.ref 0), some (.ref 69), some (.ref 87), some (.int z), a5, a6], [.int z299], (m + 0 + 0, k + 0 + 0), hp297) _ from ?_)
  refine Ev.step (j := 917) (s' := ([some (.retAddr 0), some (.ref 0), some (.ref 69), some (.ref 87), some (.int z), a5, a6], [], (m + 0 + 0, k + 0 + 0), hp297)) rfl rfl ?_
  refine Ev.step (j := 1468) (s' := ([some (.retAddr 0), some (.ref 0), some (.ref 69), some (.ref 87), some (.int z), a5, a6], [], (m + 0 + 0, k + 0 + 0), hp297)) rfl rfl ?_
  exact K _ _ _ _ _ _ Hhp297 ⟨E300, _, hD, hC2, hX2⟩ (by omega) (by omega)
set_option maxRecDepth 100000 in
set_option maxHeartbeats 4000000 in
theorem op_without {xs : Nat → Int32} {n : Nat} {z : Int32} {a5 a6 : Option Value} {m k : Nat} {hp : ab_H} {t : Nat → Nat} {Q : ab_O → Prop} (H : sf_h t hp) (hs : lw_eq hp) (hz0 : 0 ≤ z.toInt) (hz1 : z.toInt + 6 ≤ n) (hn : n ≤ 3072) (hm : m + 21 ≤ 709736) (hk : k + 410 ≤ 6966897) (K : lw_K xs n z m k Q) : Ev (LT xs n) 920 ([some (.retAddr 0), some (.ref 0), some (.ref 69), some (.ref 87), some (.int z), a5, a6], [], (m, k), hp) Q := by
  obtain ⟨hs, D, hD, hC, hX⟩ := hs
  refine Ev.step (j := 921) (s' := ([some (.retAddr 0), some (.ref 0), some (.ref 69), some (.ref 87), some (.int z), a5, a6], [.ref 0], (m, k), hp)) rfl rfl ?_
  refine Ev.step (j := 922) (s' := ([some (.retAddr 0), some (.ref 0), some (.ref 69), some (.ref 87), some (.int z), a5, a6], [.retAddr 0, .ref 0], (m, k), hp)) rfl rfl ?_
  refine Ev.step (j := 924) (s' := ([some (.retAddr 0), some (.ref 0), some (.ref 69), some (.ref 87), some (.int z), a5, a6], [.int z, .retAddr 0, .ref 0], (m, k), hp)) rfl rfl ?_
  refine bs_lit (k := 1) rfl rfl fun z301 hz301 => ?_
  refine bs_add rfl (by omega) (by omega) fun z302 hz302 => ?_
  refine ls_sld rfl (by omega) (by omega) ?_
  refine (show Ev _ 927 ([some (.retAddr 0), some (.ref 0), some (.ref 69), some (.ref 87), some (.int z), a5, a6], [.int (xs z302.toNatClampNeg), .ref 0], (m, k), hp) _ from ?_)
  refine Ev.step (j := 928) (s' := ([some (.retAddr 0), some (.ref 0), some (.ref 69), some (.ref 87), some (.int z), a5, a6], [.retAddr 0, .int (xs z302.toNatClampNeg), .ref 0], (m, k), hp)) rfl rfl ?_
  refine Ev.step (j := 930) (s' := ([some (.retAddr 0), some (.ref 0), some (.ref 69), some (.ref 87), some (.int z), a5, a6], [.int z, .retAddr 0, .int (xs z302.toNatClampNeg), .ref 0], (m, k), hp)) rfl rfl ?_
  refine bs_lit (k := 2) rfl rfl fun z303 hz303 => ?_
  refine bs_add rfl (by omega) (by omega) fun z304 hz304 => ?_
  refine ls_sld rfl (by omega) (by omega) ?_
  refine (show Ev _ 933 ([some (.retAddr 0), some (.ref 0), some (.ref 69), some (.ref 87), some (.int z), a5, a6], [.int (xs z304.toNatClampNeg), .int (xs z302.toNatClampNeg), .ref 0], (m, k), hp) _ from ?_)
  refine Ev.step (j := 934) (s' := ([some (.retAddr 0), some (.ref 0), some (.ref 69), some (.ref 87), some (.int z), a5, a6], [.retAddr 0, .int (xs z304.toNatClampNeg), .int (xs z302.toNatClampNeg), .ref 0], (m, k), hp)) rfl rfl ?_
  refine Ev.step (j := 936) (s' := ([some (.retAddr 0), some (.ref 0), some (.ref 69), some (.ref 87), some (.int z), a5, a6], [.int z, .retAddr 0, .int (xs z304.toNatClampNeg), .int (xs z302.toNatClampNeg), .ref 0], (m, k), hp)) rfl rfl ?_
  refine bs_lit (k := 3) rfl rfl fun z305 hz305 => ?_
  refine bs_add rfl (by omega) (by omega) fun z306 hz306 => ?_
  refine ls_sld rfl (by omega) (by omega) ?_
  refine (show Ev _ 939 ([some (.retAddr 0), some (.ref 0), some (.ref 69), some (.ref 87), some (.int z), a5, a6], [.int (xs z306.toNatClampNeg), .int (xs z304.toNatClampNeg), .int (xs z302.toNatClampNeg), .ref 0], (m, k), hp) _ from ?_)
  refine Ev.step (j := 940) (s' := ([some (.retAddr 0), some (.ref 0), some (.ref 69), some (.ref 87), some (.int z), a5, a6], [.retAddr 0, .int (xs z306.toNatClampNeg), .int (xs z304.toNatClampNeg), .int (xs z302.toNatClampNeg), .ref 0], (m, k), hp)) rfl rfl ?_
  refine Ev.step (j := 942) (s' := ([some (.retAddr 0), some (.ref 0), some (.ref 69), some (.ref 87), some (.int z), a5, a6], [.int z, .retAddr 0, .int (xs z306.toNatClampNeg), .int (xs z304.toNatClampNeg), .int (xs z302.toNatClampNeg), .ref 0], (m, k), hp)) rfl rfl ?_
  refine bs_lit (k := 4) rfl rfl fun z307 hz307 => ?_
  refine bs_add rfl (by omega) (by omega) fun z308 hz308 => ?_
  refine ls_sld rfl (by omega) (by omega) ?_
  refine (show Ev _ 945 ([some (.retAddr 0), some (.ref 0), some (.ref 69), some (.ref 87), some (.int z), a5, a6], [.int (xs z308.toNatClampNeg), .int (xs z306.toNatClampNeg), .int (xs z304.toNatClampNeg), .int (xs z302.toNatClampNeg), .ref 0], (m, k), hp) _ from ?_)
  refine bs_callx (K := kq_X10_without_7e309e) [.ref 0, .int (xs z302.toNatClampNeg), .int (xs z304.toNatClampNeg), .int (xs z306.toNatClampNeg), .int (xs z308.toNatClampNeg)] [] rfl (sf_cX ct_X10_without_7e309e) H rfl rfl rfl (bs_rcv (g := 10) H (bs_R.uq H (g := 10) rfl) (by decide) rfl) (ls_room (Nat.le_of_ble_eq_true rfl) (by omega) (by omega)) ?_ (sf_S_nil) fun r310 hp309 thp309 Hhp309 fhp309 ahp309 php309 xhp309 => ?_
  · intro q k h
    match q, h with
    | 0, h => cases h; exact bs_jR (bs_R.uq H (g := 10) rfl)
    | 1, h => cases h; exact sf_j0
    | 2, h => cases h; exact sf_j0
    | 3, h => cases h; exact sf_j0
    | 4, h => cases h; exact sf_j0
    | q + 5, h => cases h
  obtain ⟨z311, rfl⟩ := bs_anI ahp309
  have E312 := lw_keep H fhp309 rfl rfl rfl rfl rfl hs
  obtain ⟨ew1, hC1, hX1⟩ := pC H (d_without hC hD _ _ _ _) xhp309 hX
  refine (show Ev _ 948 ([some (.retAddr 0), some (.ref 0), some (.ref 69), some (.ref 87), some (.int z), a5, a6], [.int z311], (m + 0, k + 0), hp309) _ from ?_)
  refine Ev.step (j := 949) (s' := ([some (.retAddr 0), some (.ref 0), some (.ref 69), some (.ref 87), some (.int z), a5, a6], [], (m + 0, k + 0), hp309)) rfl rfl ?_
  refine Ev.step (j := 950) (s' := ([some (.retAddr 0), some (.ref 0), some (.ref 69), some (.ref 87), some (.int z), a5, a6], [.ref 69], (m + 0, k + 0), hp309)) rfl rfl ?_
  refine Ev.step (j := 951) (s' := ([some (.retAddr 0), some (.ref 0), some (.ref 69), some (.ref 87), some (.int z), a5, a6], [.retAddr 0, .ref 69], (m + 0, k + 0), hp309)) rfl rfl ?_
  refine Ev.step (j := 953) (s' := ([some (.retAddr 0), some (.ref 0), some (.ref 69), some (.ref 87), some (.int z), a5, a6], [.int z, .retAddr 0, .ref 69], (m + 0, k + 0), hp309)) rfl rfl ?_
  refine bs_lit (k := 1) rfl rfl fun z313 hz313 => ?_
  refine bs_add rfl (by omega) (by omega) fun z314 hz314 => ?_
  refine ls_sld rfl (by omega) (by omega) ?_
  refine (show Ev _ 956 ([some (.retAddr 0), some (.ref 0), some (.ref 69), some (.ref 87), some (.int z), a5, a6], [.int (xs z314.toNatClampNeg), .ref 69], (m + 0, k + 0), hp309) _ from ?_)
  refine Ev.step (j := 957) (s' := ([some (.retAddr 0), some (.ref 0), some (.ref 69), some (.ref 87), some (.int z), a5, a6], [.retAddr 0, .int (xs z314.toNatClampNeg), .ref 69], (m + 0, k + 0), hp309)) rfl rfl ?_
  refine Ev.step (j := 959) (s' := ([some (.retAddr 0), some (.ref 0), some (.ref 69), some (.ref 87), some (.int z), a5, a6], [.int z, .retAddr 0, .int (xs z314.toNatClampNeg), .ref 69], (m + 0, k + 0), hp309)) rfl rfl ?_
  refine bs_lit (k := 2) rfl rfl fun z315 hz315 => ?_
  refine bs_add rfl (by omega) (by omega) fun z316 hz316 => ?_
  refine ls_sld rfl (by omega) (by omega) ?_
  refine (show Ev _ 962 ([some (.retAddr 0), some (.ref 0), some (.ref 69), some (.ref 87), some (.int z), a5, a6], [.int (xs z316.toNatClampNeg), .int (xs z314.toNatClampNeg), .ref 69], (m + 0, k + 0), hp309) _ from ?_)
  refine Ev.step (j := 963) (s' := ([some (.retAddr 0), some (.ref 0), some (.ref 69), some (.ref 87), some (.int z), a5, a6], [.retAddr 0, .int (xs z316.toNatClampNeg), .int (xs z314.toNatClampNeg), .ref 69], (m + 0, k + 0), hp309)) rfl rfl ?_
  refine Ev.step (j := 965) (s' := ([some (.retAddr 0), some (.ref 0), some (.ref 69), some (.ref 87), some (.int z), a5, a6], [.int z, .retAddr 0, .int (xs z316.toNatClampNeg), .int (xs z314.toNatClampNeg), .ref 69], (m + 0, k + 0), hp309)) rfl rfl ?_
  refine bs_lit (k := 3) rfl rfl fun z317 hz317 => ?_
  refine bs_add rfl (by omega) (by omega) fun z318 hz318 => ?_
  refine ls_sld rfl (by omega) (by omega) ?_
  refine (show Ev _ 968 ([some (.retAddr 0), some (.ref 0), some (.ref 69), some (.ref 87), some (.int z), a5, a6], [.int (xs z318.toNatClampNeg), .int (xs z316.toNatClampNeg), .int (xs z314.toNatClampNeg), .ref 69], (m + 0, k + 0), hp309) _ from ?_)
  refine Ev.step (j := 969) (s' := ([some (.retAddr 0), some (.ref 0), some (.ref 69), some (.ref 87), some (.int z), a5, a6], [.retAddr 0, .int (xs z318.toNatClampNeg), .int (xs z316.toNatClampNeg), .int (xs z314.toNatClampNeg), .ref 69], (m + 0, k + 0), hp309)) rfl rfl ?_
  refine Ev.step (j := 971) (s' := ([some (.retAddr 0), some (.ref 0), some (.ref 69), some (.ref 87), some (.int z), a5, a6], [.int z, .retAddr 0, .int (xs z318.toNatClampNeg), .int (xs z316.toNatClampNeg), .int (xs z314.toNatClampNeg), .ref 69], (m + 0, k + 0), hp309)) rfl rfl ?_
  refine bs_lit (k := 4) rfl rfl fun z319 hz319 => ?_
  refine bs_add rfl (by omega) (by omega) fun z320 hz320 => ?_
  refine ls_sld rfl (by omega) (by omega) ?_
  refine (show Ev _ 974 ([some (.retAddr 0), some (.ref 0), some (.ref 69), some (.ref 87), some (.int z), a5, a6], [.int (xs z320.toNatClampNeg), .int (xs z318.toNatClampNeg), .int (xs z316.toNatClampNeg), .int (xs z314.toNatClampNeg), .ref 69], (m + 0, k + 0), hp309) _ from ?_)
  refine bs_callx (K := kq_X11_without_h) [.ref 69, .int (xs z314.toNatClampNeg), .int (xs z316.toNatClampNeg), .int (xs z318.toNatClampNeg), .int (xs z320.toNatClampNeg)] [] rfl (sf_cX ct_X11_without_h) Hhp309 rfl rfl rfl (bs_rcv (g := 11) Hhp309 (bs_R.uq Hhp309 (g := 11) rfl) (by decide) rfl) (ls_room (Nat.le_of_ble_eq_true rfl) (by omega) (by omega)) ?_ (sf_S_nil) fun r322 hp321 thp321 Hhp321 fhp321 ahp321 php321 xhp321 => ?_
  · intro q k h
    match q, h with
    | 0, h => cases h; exact bs_jR (bs_R.uq Hhp309 (g := 11) rfl)
    | 1, h => cases h; exact sf_j0
    | 2, h => cases h; exact sf_j0
    | 3, h => cases h; exact sf_j0
    | 4, h => cases h; exact sf_j0
    | q + 5, h => cases h
  obtain ⟨z323, rfl⟩ := bs_anI ahp321
  have E324 := lw_keep Hhp309 fhp321 rfl rfl rfl rfl rfl E312
  rw [show z314 = z302 from Int32.toInt_inj.mp (by omega)] at xhp321
  rw [show z316 = z304 from Int32.toInt_inj.mp (by omega)] at xhp321
  rw [show z318 = z306 from Int32.toInt_inj.mp (by omega)] at xhp321
  rw [show z320 = z308 from Int32.toInt_inj.mp (by omega)] at xhp321
  obtain ⟨ew2, hX2, hC2⟩ := pX Hhp309 (e_without hX1 hD _ _ _ _) xhp321 hC1
  refine (show Ev _ 977 ([some (.retAddr 0), some (.ref 0), some (.ref 69), some (.ref 87), some (.int z), a5, a6], [.int z323], (m + 0 + 0, k + 0 + 0), hp321) _ from ?_)
  refine Ev.step (j := 978) (s' := ([some (.retAddr 0), some (.ref 0), some (.ref 69), some (.ref 87), some (.int z), a5, a6], [], (m + 0 + 0, k + 0 + 0), hp321)) rfl rfl ?_
  refine Ev.step (j := 1468) (s' := ([some (.retAddr 0), some (.ref 0), some (.ref 69), some (.ref 87), some (.int z), a5, a6], [], (m + 0 + 0, k + 0 + 0), hp321)) rfl rfl ?_
  exact K _ _ _ _ _ _ Hhp321 ⟨E324, _, hD, hC2, hX2⟩ (by omega) (by omega)
set_option maxRecDepth 100000 in
set_option maxHeartbeats 4000000 in
theorem op_meet {xs : Nat → Int32} {n : Nat} {z : Int32} {a5 a6 : Option Value} {m k : Nat} {hp : ab_H} {t : Nat → Nat} {Q : ab_O → Prop} (H : sf_h t hp) (hs : lw_eq hp) (hz0 : 0 ≤ z.toInt) (hz1 : z.toInt + 6 ≤ n) (hn : n ≤ 3072) (hm : m + 21 ≤ 709736) (hk : k + 410 ≤ 6966897) (K : lw_K xs n z m k Q) : Ev (LT xs n) 981 ([some (.retAddr 0), some (.ref 0), some (.ref 69), some (.ref 87), some (.int z), a5, a6], [], (m, k), hp) Q := by
  obtain ⟨hs, D, hD, hC, hX⟩ := hs
  refine Ev.step (j := 982) (s' := ([some (.retAddr 0), some (.ref 0), some (.ref 69), some (.ref 87), some (.int z), a5, a6], [.ref 0], (m, k), hp)) rfl rfl ?_
  refine Ev.step (j := 983) (s' := ([some (.retAddr 0), some (.ref 0), some (.ref 69), some (.ref 87), some (.int z), a5, a6], [.retAddr 0, .ref 0], (m, k), hp)) rfl rfl ?_
  refine Ev.step (j := 985) (s' := ([some (.retAddr 0), some (.ref 0), some (.ref 69), some (.ref 87), some (.int z), a5, a6], [.int z, .retAddr 0, .ref 0], (m, k), hp)) rfl rfl ?_
  refine bs_lit (k := 1) rfl rfl fun z325 hz325 => ?_
  refine bs_add rfl (by omega) (by omega) fun z326 hz326 => ?_
  refine ls_sld rfl (by omega) (by omega) ?_
  refine (show Ev _ 988 ([some (.retAddr 0), some (.ref 0), some (.ref 69), some (.ref 87), some (.int z), a5, a6], [.int (xs z326.toNatClampNeg), .ref 0], (m, k), hp) _ from ?_)
  refine Ev.step (j := 989) (s' := ([some (.retAddr 0), some (.ref 0), some (.ref 69), some (.ref 87), some (.int z), a5, a6], [.retAddr 0, .int (xs z326.toNatClampNeg), .ref 0], (m, k), hp)) rfl rfl ?_
  refine Ev.step (j := 991) (s' := ([some (.retAddr 0), some (.ref 0), some (.ref 69), some (.ref 87), some (.int z), a5, a6], [.int z, .retAddr 0, .int (xs z326.toNatClampNeg), .ref 0], (m, k), hp)) rfl rfl ?_
  refine bs_lit (k := 2) rfl rfl fun z327 hz327 => ?_
  refine bs_add rfl (by omega) (by omega) fun z328 hz328 => ?_
  refine ls_sld rfl (by omega) (by omega) ?_
  refine (show Ev _ 994 ([some (.retAddr 0), some (.ref 0), some (.ref 69), some (.ref 87), some (.int z), a5, a6], [.int (xs z328.toNatClampNeg), .int (xs z326.toNatClampNeg), .ref 0], (m, k), hp) _ from ?_)
  refine bs_callx (K := kq_X10_meet_57b5ea) [.ref 0, .int (xs z326.toNatClampNeg), .int (xs z328.toNatClampNeg)] [] rfl (sf_cX ct_X10_meet_57b5ea) H rfl rfl rfl (bs_rcv (g := 10) H (bs_R.uq H (g := 10) rfl) (by decide) rfl) (ls_room (Nat.le_of_ble_eq_true rfl) (by omega) (by omega)) ?_ (sf_S_nil) fun r330 hp329 thp329 Hhp329 fhp329 ahp329 php329 xhp329 => ?_
  · intro q k h
    match q, h with
    | 0, h => cases h; exact bs_jR (bs_R.uq H (g := 10) rfl)
    | 1, h => cases h; exact sf_j0
    | 2, h => cases h; exact sf_j0
    | q + 3, h => cases h
  obtain ⟨z331, rfl⟩ := bs_anI ahp329
  have E332 := lw_keep H fhp329 rfl rfl rfl rfl rfl hs
  obtain ⟨ew1, hC1, hX1⟩ := pC H (d_meet hC hD _ _) xhp329 hX
  refine (show Ev _ 997 ([some (.retAddr 0), some (.ref 0), some (.ref 69), some (.ref 87), some (.int z), a5, a6], [.int z331], (m + 0, k + 0), hp329) _ from ?_)
  refine Ev.step (j := 998) (s' := ([some (.retAddr 0), some (.ref 0), some (.ref 69), some (.ref 87), some (.int z), a5, a6], [], (m + 0, k + 0), hp329)) rfl rfl ?_
  refine Ev.step (j := 999) (s' := ([some (.retAddr 0), some (.ref 0), some (.ref 69), some (.ref 87), some (.int z), a5, a6], [.ref 69], (m + 0, k + 0), hp329)) rfl rfl ?_
  refine Ev.step (j := 1000) (s' := ([some (.retAddr 0), some (.ref 0), some (.ref 69), some (.ref 87), some (.int z), a5, a6], [.retAddr 0, .ref 69], (m + 0, k + 0), hp329)) rfl rfl ?_
  refine Ev.step (j := 1002) (s' := ([some (.retAddr 0), some (.ref 0), some (.ref 69), some (.ref 87), some (.int z), a5, a6], [.int z, .retAddr 0, .ref 69], (m + 0, k + 0), hp329)) rfl rfl ?_
  refine bs_lit (k := 1) rfl rfl fun z333 hz333 => ?_
  refine bs_add rfl (by omega) (by omega) fun z334 hz334 => ?_
  refine ls_sld rfl (by omega) (by omega) ?_
  refine (show Ev _ 1005 ([some (.retAddr 0), some (.ref 0), some (.ref 69), some (.ref 87), some (.int z), a5, a6], [.int (xs z334.toNatClampNeg), .ref 69], (m + 0, k + 0), hp329) _ from ?_)
  refine Ev.step (j := 1006) (s' := ([some (.retAddr 0), some (.ref 0), some (.ref 69), some (.ref 87), some (.int z), a5, a6], [.retAddr 0, .int (xs z334.toNatClampNeg), .ref 69], (m + 0, k + 0), hp329)) rfl rfl ?_
  refine Ev.step (j := 1008) (s' := ([some (.retAddr 0), some (.ref 0), some (.ref 69), some (.ref 87), some (.int z), a5, a6], [.int z, .retAddr 0, .int (xs z334.toNatClampNeg), .ref 69], (m + 0, k + 0), hp329)) rfl rfl ?_
  refine bs_lit (k := 2) rfl rfl fun z335 hz335 => ?_
  refine bs_add rfl (by omega) (by omega) fun z336 hz336 => ?_
  refine ls_sld rfl (by omega) (by omega) ?_
  refine (show Ev _ 1011 ([some (.retAddr 0), some (.ref 0), some (.ref 69), some (.ref 87), some (.int z), a5, a6], [.int (xs z336.toNatClampNeg), .int (xs z334.toNatClampNeg), .ref 69], (m + 0, k + 0), hp329) _ from ?_)
  refine bs_callx (K := kq_X11_meet_h) [.ref 69, .int (xs z334.toNatClampNeg), .int (xs z336.toNatClampNeg)] [] rfl (sf_cX ct_X11_meet_h) Hhp329 rfl rfl rfl (bs_rcv (g := 11) Hhp329 (bs_R.uq Hhp329 (g := 11) rfl) (by decide) rfl) (ls_room (Nat.le_of_ble_eq_true rfl) (by omega) (by omega)) ?_ (sf_S_nil) fun r338 hp337 thp337 Hhp337 fhp337 ahp337 php337 xhp337 => ?_
  · intro q k h
    match q, h with
    | 0, h => cases h; exact bs_jR (bs_R.uq Hhp329 (g := 11) rfl)
    | 1, h => cases h; exact sf_j0
    | 2, h => cases h; exact sf_j0
    | q + 3, h => cases h
  obtain ⟨z339, rfl⟩ := bs_anI ahp337
  have E340 := lw_keep Hhp329 fhp337 rfl rfl rfl rfl rfl E332
  rw [show z334 = z326 from Int32.toInt_inj.mp (by omega)] at xhp337
  rw [show z336 = z328 from Int32.toInt_inj.mp (by omega)] at xhp337
  obtain ⟨ew2, hX2, hC2⟩ := pX Hhp329 (e_meet hX1 hD _ _) xhp337 hC1
  refine (show Ev _ 1014 ([some (.retAddr 0), some (.ref 0), some (.ref 69), some (.ref 87), some (.int z), a5, a6], [.int z339], (m + 0 + 0, k + 0 + 0), hp337) _ from ?_)
  refine Ev.step (j := 1015) (s' := ([some (.retAddr 0), some (.ref 0), some (.ref 69), some (.ref 87), some (.int z), a5, a6], [], (m + 0 + 0, k + 0 + 0), hp337)) rfl rfl ?_
  refine Ev.step (j := 1468) (s' := ([some (.retAddr 0), some (.ref 0), some (.ref 69), some (.ref 87), some (.int z), a5, a6], [], (m + 0 + 0, k + 0 + 0), hp337)) rfl rfl ?_
  exact K _ _ _ _ _ _ Hhp337 ⟨E340, _, hD, hC2, hX2⟩ (by omega) (by omega)
set_option maxRecDepth 100000 in
set_option maxHeartbeats 4000000 in
theorem op_loads {xs : Nat → Int32} {n : Nat} {z : Int32} {a5 a6 : Option Value} {m k : Nat} {hp : ab_H} {t : Nat → Nat} {Q : ab_O → Prop} (H : sf_h t hp) (hs : lw_eq hp) (hz0 : 0 ≤ z.toInt) (hz1 : z.toInt + 6 ≤ n) (hn : n ≤ 3072) (hm : m + 21 ≤ 709736) (hk : k + 410 ≤ 6966897) (K : lw_K xs n z m k Q) : Ev (LT xs n) 1018 ([some (.retAddr 0), some (.ref 0), some (.ref 69), some (.ref 87), some (.int z), a5, a6], [], (m, k), hp) Q := by
  obtain ⟨hs, D, hD, hC, hX⟩ := hs
  refine Ev.step (j := 1019) (s' := ([some (.retAddr 0), some (.ref 0), some (.ref 69), some (.ref 87), some (.int z), a5, a6], [.ref 0], (m, k), hp)) rfl rfl ?_
  refine Ev.step (j := 1020) (s' := ([some (.retAddr 0), some (.ref 0), some (.ref 69), some (.ref 87), some (.int z), a5, a6], [.retAddr 0, .ref 0], (m, k), hp)) rfl rfl ?_
  refine Ev.step (j := 1022) (s' := ([some (.retAddr 0), some (.ref 0), some (.ref 69), some (.ref 87), some (.int z), a5, a6], [.int z, .retAddr 0, .ref 0], (m, k), hp)) rfl rfl ?_
  refine bs_lit (k := 1) rfl rfl fun z341 hz341 => ?_
  refine bs_add rfl (by omega) (by omega) fun z342 hz342 => ?_
  refine ls_sld rfl (by omega) (by omega) ?_
  refine (show Ev _ 1025 ([some (.retAddr 0), some (.ref 0), some (.ref 69), some (.ref 87), some (.int z), a5, a6], [.int (xs z342.toNatClampNeg), .ref 0], (m, k), hp) _ from ?_)
  refine bs_callx (K := kq_X10_loads_0df2a5) [.ref 0, .int (xs z342.toNatClampNeg)] [] rfl (sf_cX ct_X10_loads_0df2a5) H rfl rfl rfl (bs_rcv (g := 10) H (bs_R.uq H (g := 10) rfl) (by decide) rfl) (ls_room (Nat.le_of_ble_eq_true rfl) (by omega) (by omega)) ?_ (sf_S_nil) fun r344 hp343 thp343 Hhp343 fhp343 ahp343 php343 xhp343 => ?_
  · intro q k h
    match q, h with
    | 0, h => cases h; exact bs_jR (bs_R.uq H (g := 10) rfl)
    | 1, h => cases h; exact sf_j0
    | q + 2, h => cases h
  obtain ⟨z345, rfl⟩ := bs_anI ahp343
  have E346 := lw_keep H fhp343 rfl rfl rfl rfl rfl hs
  obtain ⟨ew1, hC1, hX1⟩ := pC H (d_loads hC hD _) xhp343 hX
  refine (show Ev _ 1028 ([some (.retAddr 0), some (.ref 0), some (.ref 69), some (.ref 87), some (.int z), a5, a6], [.int z345], (m + 0, k + 0), hp343) _ from ?_)
  refine Ev.step (j := 1029) (s' := ([some (.retAddr 0), some (.ref 0), some (.ref 69), some (.ref 87), some (.int z), a5, a6], [], (m + 0, k + 0), hp343)) rfl rfl ?_
  refine Ev.step (j := 1030) (s' := ([some (.retAddr 0), some (.ref 0), some (.ref 69), some (.ref 87), some (.int z), a5, a6], [.ref 69], (m + 0, k + 0), hp343)) rfl rfl ?_
  refine Ev.step (j := 1031) (s' := ([some (.retAddr 0), some (.ref 0), some (.ref 69), some (.ref 87), some (.int z), a5, a6], [.retAddr 0, .ref 69], (m + 0, k + 0), hp343)) rfl rfl ?_
  refine Ev.step (j := 1033) (s' := ([some (.retAddr 0), some (.ref 0), some (.ref 69), some (.ref 87), some (.int z), a5, a6], [.int z, .retAddr 0, .ref 69], (m + 0, k + 0), hp343)) rfl rfl ?_
  refine bs_lit (k := 1) rfl rfl fun z347 hz347 => ?_
  refine bs_add rfl (by omega) (by omega) fun z348 hz348 => ?_
  refine ls_sld rfl (by omega) (by omega) ?_
  refine (show Ev _ 1036 ([some (.retAddr 0), some (.ref 0), some (.ref 69), some (.ref 87), some (.int z), a5, a6], [.int (xs z348.toNatClampNeg), .ref 69], (m + 0, k + 0), hp343) _ from ?_)
  refine bs_callx (K := kq_X11_loads_3d45d6) [.ref 69, .int (xs z348.toNatClampNeg)] [] rfl (sf_cX ct_X11_loads_3d45d6) Hhp343 rfl rfl rfl (bs_rcv (g := 11) Hhp343 (bs_R.uq Hhp343 (g := 11) rfl) (by decide) rfl) (ls_room (Nat.le_of_ble_eq_true rfl) (by omega) (by omega)) ?_ (sf_S_nil) fun r350 hp349 thp349 Hhp349 fhp349 ahp349 php349 xhp349 => ?_
  · intro q k h
    match q, h with
    | 0, h => cases h; exact bs_jR (bs_R.uq Hhp343 (g := 11) rfl)
    | 1, h => cases h; exact sf_j0
    | q + 2, h => cases h
  obtain ⟨z351, rfl⟩ := bs_anI ahp349
  have E352 := lw_keep Hhp343 fhp349 rfl rfl rfl rfl rfl E346
  rw [show z348 = z342 from Int32.toInt_inj.mp (by omega)] at xhp349
  obtain ⟨ew2, hX2, hC2⟩ := pX Hhp343 (e_loads hX1 hD _) xhp349 hC1
  refine (show Ev _ 1039 ([some (.retAddr 0), some (.ref 0), some (.ref 69), some (.ref 87), some (.int z), a5, a6], [.int z351], (m + 0 + 0, k + 0 + 0), hp349) _ from ?_)
  refine Ev.step (j := 1040) (s' := ([some (.retAddr 0), some (.ref 0), some (.ref 69), some (.ref 87), some (.int z), a5, a6], [], (m + 0 + 0, k + 0 + 0), hp349)) rfl rfl ?_
  refine Ev.step (j := 1468) (s' := ([some (.retAddr 0), some (.ref 0), some (.ref 69), some (.ref 87), some (.int z), a5, a6], [], (m + 0 + 0, k + 0 + 0), hp349)) rfl rfl ?_
  exact K _ _ _ _ _ _ Hhp349 ⟨E352, _, hD, hC2, hX2⟩ (by omega) (by omega)
set_option maxRecDepth 100000 in
set_option maxHeartbeats 4000000 in
theorem op_which {xs : Nat → Int32} {n : Nat} {z : Int32} {a5 a6 : Option Value} {m k : Nat} {hp : ab_H} {t : Nat → Nat} {Q : ab_O → Prop} (H : sf_h t hp) (hs : lw_eq hp) (hz0 : 0 ≤ z.toInt) (hz1 : z.toInt + 6 ≤ n) (hn : n ≤ 3072) (hm : m + 21 ≤ 709736) (hk : k + 410 ≤ 6966897) (K : lw_K xs n z m k Q) : Ev (LT xs n) 1043 ([some (.retAddr 0), some (.ref 0), some (.ref 69), some (.ref 87), some (.int z), a5, a6], [], (m, k), hp) Q := by
  obtain ⟨hs, D, hD, hC, hX⟩ := hs
  obtain ⟨tn, htn, hsn, hn2, hbv⟩ := TB_n hs.1
  refine Ev.step (j := 1044) (s' := ([some (.retAddr 0), some (.ref 0), some (.ref 69), some (.ref 87), some (.int z), a5, a6], [.ref 0], (m, k), hp)) rfl rfl ?_
  refine bs_callx (K := kq_X10_which_z) [.ref 0] [] rfl (sf_cX ct_X10_which_z) H rfl rfl rfl (bs_rcv (g := 10) H (bs_R.uq H (g := 10) rfl) (by decide) rfl) (ls_room (Nat.le_of_ble_eq_true rfl) (by omega) (by omega)) ?_ (sf_S_nil) fun r354 hp353 thp353 Hhp353 fhp353 ahp353 php353 xhp353 => ?_
  · intro q k h
    match q, h with
    | 0, h => cases h; exact bs_jR (bs_R.uq H (g := 10) rfl)
    | q + 1, h => cases h
  obtain ⟨z355, rfl⟩ := bs_anI ahp353
  obtain ⟨y356, ey356, uy356, wy356⟩ := (php353 _ (List.mem_of_getElem? (i := 0) rfl)).1 rfl
  replace ey356 : sf_rd hp353 1 1 = some y356 := ey356
  replace uy356 : (0 : Int) ≤ y356 := uy356
  replace wy356 : y356 ≤ (0 : Int) := wy356
  have RS1 := RES_fr H fhp353 rfl hs.2
  have hsm : sf_rd hp353 69 2 = some (tn : Int) := (fhp353.2.2.1 _ (bs_R.uq H (g := 11) (p := 69) rfl).1 _ (by rw [(bs_R.uq H (g := 11) (p := 69) rfl).2]; rfl)).trans hn2
  have hb : bv hp353 70 tn = bv hp 2 tn := (bv_same (fun q => (fhp353.2.2.1 _ (bs_R.uq H (g := 131) (p := 70) rfl).1 _ (by rw [(bs_R.uq H (g := 131) (p := 70) rfl).2]; rfl)))).trans hbv
  obtain ⟨ew1, hC1, hX1⟩ := pC H (d_which hC (nat_rd hsn htn) htn) xhp353 hX
  refine (show Ev _ 1047 ([some (.retAddr 0), some (.ref 0), some (.ref 69), some (.ref 87), some (.int z), a5, a6], [.int z355], (m + 0, k + 0), hp353) _ from ?_)
  refine Ev.step (j := 1048) (s' := ([some (.retAddr 0), some (.ref 0), some (.ref 69), some (.ref 87), some (.int z), a5, a6], [], (m + 0, k + 0), hp353)) rfl rfl ?_
  refine Ev.step (j := 1049) (s' := ([some (.retAddr 0), some (.ref 0), some (.ref 69), some (.ref 87), some (.int z), a5, a6], [.ref 69], (m + 0, k + 0), hp353)) rfl rfl ?_
  refine bs_callx (K := kq_X11_which_z) [.ref 69] [] rfl (sf_cX ct_X11_which_z) Hhp353 rfl rfl rfl (bs_rcv (g := 11) Hhp353 (bs_R.uq Hhp353 (g := 11) rfl) (by decide) rfl) (ls_room (Nat.le_of_ble_eq_true rfl) (by omega) (by omega)) ?_ (sf_S_nil) fun r358 hp357 thp357 Hhp357 fhp357 ahp357 php357 xhp357 => ?_
  · intro q k h
    match q, h with
    | 0, h => cases h; exact bs_jR (bs_R.uq Hhp353 (g := 11) rfl)
    | q + 1, h => cases h
  obtain ⟨z359, rfl⟩ := bs_anI ahp357
  obtain ⟨y360, ey360, uy360, wy360⟩ := (php357 _ (List.mem_of_getElem? (i := 0) rfl)).1 rfl
  replace ey360 : sf_rd hp357 69 2 = some y360 := ey360
  replace uy360 : (0 : Int) ≤ y360 := uy360
  replace wy360 : y360 ≤ (0 : Int) := wy360
  have hc2 := (fhp357.2.2.1 _ (bs_R.uq Hhp353 (g := 8) (p := 1) rfl).1 1 (by rw [(bs_R.uq Hhp353 (g := 8) (p := 1) rfl).2]; rfl)).trans ey356
  have E : lw_tb hp357 := ⟨TB_zero (hc2.trans (congrArg some (by omega))) (ey360.trans (congrArg some (by omega))), RES_fr Hhp353 fhp357 rfl RS1⟩
  obtain ⟨ew2, hX2, hC2⟩ := pX Hhp353 (e_which hX1 (nat_rd hsm htn) htn) xhp357 hC1
  have qw := lw_which (T := dT D) H Hhp353 htn hb
  refine (show Ev _ 1052 ([some (.retAddr 0), some (.ref 0), some (.ref 69), some (.ref 87), some (.int z), a5, a6], [.int z359], (m + 0 + 0, k + 0 + 0), hp357) _ from ?_)
  refine Ev.step (j := 1053) (s' := ([some (.retAddr 0), some (.ref 0), some (.ref 69), some (.ref 87), some (.int z), a5, a6], [], (m + 0 + 0, k + 0 + 0), hp357)) rfl rfl ?_
  refine Ev.step (j := 1468) (s' := ([some (.retAddr 0), some (.ref 0), some (.ref 69), some (.ref 87), some (.int z), a5, a6], [], (m + 0 + 0, k + 0 + 0), hp357)) rfl rfl ?_
  exact K _ _ _ _ _ _ Hhp357 ⟨E, _, hD, hC2, hX2⟩ (by omega) (by omega)
set_option maxRecDepth 100000 in
set_option maxHeartbeats 4000000 in
theorem op_settles {xs : Nat → Int32} {n : Nat} {z : Int32} {a5 a6 : Option Value} {m k : Nat} {hp : ab_H} {t : Nat → Nat} {Q : ab_O → Prop} (H : sf_h t hp) (hs : lw_eq hp) (hz0 : 0 ≤ z.toInt) (hz1 : z.toInt + 6 ≤ n) (hn : n ≤ 3072) (hm : m + 21 ≤ 709736) (hk : k + 410 ≤ 6966897) (K : lw_K xs n z m k Q) : Ev (LT xs n) 1056 ([some (.retAddr 0), some (.ref 0), some (.ref 69), some (.ref 87), some (.int z), a5, a6], [], (m, k), hp) Q := by
  obtain ⟨hs, D, hD, hC, hX⟩ := hs
  refine Ev.step (j := 1057) (s' := ([some (.retAddr 0), some (.ref 0), some (.ref 69), some (.ref 87), some (.int z), a5, a6], [.ref 0], (m, k), hp)) rfl rfl ?_
  refine bs_callx (K := kq_X10_settles_4c18a7) [.ref 0] [] rfl (sf_cX ct_X10_settles_4c18a7) H rfl rfl rfl (bs_rcv (g := 10) H (bs_R.uq H (g := 10) rfl) (by decide) rfl) (ls_room (Nat.le_of_ble_eq_true rfl) (by omega) (by omega)) ?_ (sf_S_nil) fun r362 hp361 thp361 Hhp361 fhp361 ahp361 php361 xhp361 => ?_
  · intro q k h
    match q, h with
    | 0, h => cases h; exact bs_jR (bs_R.uq H (g := 10) rfl)
    | q + 1, h => cases h
  obtain ⟨z363, rfl⟩ := bs_anI ahp361
  have E364 := lw_keep H fhp361 rfl rfl rfl rfl rfl hs
  obtain ⟨ew1, hC1, hX1⟩ := pC H (d_settles hC) xhp361 hX
  refine (show Ev _ 1060 ([some (.retAddr 0), some (.ref 0), some (.ref 69), some (.ref 87), some (.int z), a5, a6], [.int z363], (m + 0, k + 0), hp361) _ from ?_)
  refine Ev.step (j := 1061) (s' := ([some (.retAddr 0), some (.ref 0), some (.ref 69), some (.ref 87), some (.int z), a5, a6], [], (m + 0, k + 0), hp361)) rfl rfl ?_
  refine Ev.step (j := 1062) (s' := ([some (.retAddr 0), some (.ref 0), some (.ref 69), some (.ref 87), some (.int z), a5, a6], [.ref 69], (m + 0, k + 0), hp361)) rfl rfl ?_
  refine bs_callx (K := kq_X11_settles_h) [.ref 69] [] rfl (sf_cX ct_X11_settles_h) Hhp361 rfl rfl rfl (bs_rcv (g := 11) Hhp361 (bs_R.uq Hhp361 (g := 11) rfl) (by decide) rfl) (ls_room (Nat.le_of_ble_eq_true rfl) (by omega) (by omega)) ?_ (sf_S_nil) fun r366 hp365 thp365 Hhp365 fhp365 ahp365 php365 xhp365 => ?_
  · intro q k h
    match q, h with
    | 0, h => cases h; exact bs_jR (bs_R.uq Hhp361 (g := 11) rfl)
    | q + 1, h => cases h
  obtain ⟨z367, rfl⟩ := bs_anI ahp365
  have E368 := lw_keep Hhp361 fhp365 rfl rfl rfl rfl rfl E364
  obtain ⟨ew2, hX2, hC2⟩ := pX Hhp361 (e_settles hX1 hD) xhp365 hC1
  refine (show Ev _ 1065 ([some (.retAddr 0), some (.ref 0), some (.ref 69), some (.ref 87), some (.int z), a5, a6], [.int z367], (m + 0 + 0, k + 0 + 0), hp365) _ from ?_)
  refine Ev.step (j := 1066) (s' := ([some (.retAddr 0), some (.ref 0), some (.ref 69), some (.ref 87), some (.int z), a5, a6], [], (m + 0 + 0, k + 0 + 0), hp365)) rfl rfl ?_
  refine Ev.step (j := 1468) (s' := ([some (.retAddr 0), some (.ref 0), some (.ref 69), some (.ref 87), some (.int z), a5, a6], [], (m + 0 + 0, k + 0 + 0), hp365)) rfl rfl ?_
  exact K _ _ _ _ _ _ Hhp365 ⟨E368, _, hD, hC2, hX2⟩ (by omega) (by omega)
set_option maxRecDepth 100000 in
set_option maxHeartbeats 4000000 in
theorem op_hunger {xs : Nat → Int32} {n : Nat} {z : Int32} {a5 a6 : Option Value} {m k : Nat} {hp : ab_H} {t : Nat → Nat} {Q : ab_O → Prop} (H : sf_h t hp) (hs : lw_eq hp) (hz0 : 0 ≤ z.toInt) (hz1 : z.toInt + 6 ≤ n) (hn : n ≤ 3072) (hm : m + 21 ≤ 709736) (hk : k + 410 ≤ 6966897) (K : lw_K xs n z m k Q) : Ev (LT xs n) 1069 ([some (.retAddr 0), some (.ref 0), some (.ref 69), some (.ref 87), some (.int z), a5, a6], [], (m, k), hp) Q := by
  obtain ⟨hs, D, hD, hC, hX⟩ := hs
  refine Ev.step (j := 1070) (s' := ([some (.retAddr 0), some (.ref 0), some (.ref 69), some (.ref 87), some (.int z), a5, a6], [.ref 0], (m, k), hp)) rfl rfl ?_
  refine Ev.step (j := 1071) (s' := ([some (.retAddr 0), some (.ref 0), some (.ref 69), some (.ref 87), some (.int z), a5, a6], [.retAddr 0, .ref 0], (m, k), hp)) rfl rfl ?_
  refine Ev.step (j := 1073) (s' := ([some (.retAddr 0), some (.ref 0), some (.ref 69), some (.ref 87), some (.int z), a5, a6], [.int z, .retAddr 0, .ref 0], (m, k), hp)) rfl rfl ?_
  refine bs_lit (k := 1) rfl rfl fun z369 hz369 => ?_
  refine bs_add rfl (by omega) (by omega) fun z370 hz370 => ?_
  refine ls_sld rfl (by omega) (by omega) ?_
  refine (show Ev _ 1076 ([some (.retAddr 0), some (.ref 0), some (.ref 69), some (.ref 87), some (.int z), a5, a6], [.int (xs z370.toNatClampNeg), .ref 0], (m, k), hp) _ from ?_)
  refine Ev.step (j := 1077) (s' := ([some (.retAddr 0), some (.ref 0), some (.ref 69), some (.ref 87), some (.int z), a5, a6], [.retAddr 0, .int (xs z370.toNatClampNeg), .ref 0], (m, k), hp)) rfl rfl ?_
  refine Ev.step (j := 1079) (s' := ([some (.retAddr 0), some (.ref 0), some (.ref 69), some (.ref 87), some (.int z), a5, a6], [.int z, .retAddr 0, .int (xs z370.toNatClampNeg), .ref 0], (m, k), hp)) rfl rfl ?_
  refine bs_lit (k := 2) rfl rfl fun z371 hz371 => ?_
  refine bs_add rfl (by omega) (by omega) fun z372 hz372 => ?_
  refine ls_sld rfl (by omega) (by omega) ?_
  refine (show Ev _ 1082 ([some (.retAddr 0), some (.ref 0), some (.ref 69), some (.ref 87), some (.int z), a5, a6], [.int (xs z372.toNatClampNeg), .int (xs z370.toNatClampNeg), .ref 0], (m, k), hp) _ from ?_)
  refine Ev.step (j := 1083) (s' := ([some (.retAddr 0), some (.ref 0), some (.ref 69), some (.ref 87), some (.int z), a5, a6], [.retAddr 0, .int (xs z372.toNatClampNeg), .int (xs z370.toNatClampNeg), .ref 0], (m, k), hp)) rfl rfl ?_
  refine Ev.step (j := 1085) (s' := ([some (.retAddr 0), some (.ref 0), some (.ref 69), some (.ref 87), some (.int z), a5, a6], [.int z, .retAddr 0, .int (xs z372.toNatClampNeg), .int (xs z370.toNatClampNeg), .ref 0], (m, k), hp)) rfl rfl ?_
  refine bs_lit (k := 3) rfl rfl fun z373 hz373 => ?_
  refine bs_add rfl (by omega) (by omega) fun z374 hz374 => ?_
  refine ls_sld rfl (by omega) (by omega) ?_
  refine (show Ev _ 1088 ([some (.retAddr 0), some (.ref 0), some (.ref 69), some (.ref 87), some (.int z), a5, a6], [.int (xs z374.toNatClampNeg), .int (xs z372.toNatClampNeg), .int (xs z370.toNatClampNeg), .ref 0], (m, k), hp) _ from ?_)
  refine bs_callx (K := kq_X10_hunger_7e6f69) [.ref 0, .int (xs z370.toNatClampNeg), .int (xs z372.toNatClampNeg), .int (xs z374.toNatClampNeg)] [] rfl (sf_cX ct_X10_hunger_7e6f69) H rfl rfl rfl (bs_rcv (g := 10) H (bs_R.uq H (g := 10) rfl) (by decide) rfl) (ls_room (Nat.le_of_ble_eq_true rfl) (by omega) (by omega)) ?_ (sf_S_nil) fun r376 hp375 thp375 Hhp375 fhp375 ahp375 php375 xhp375 => ?_
  · intro q k h
    match q, h with
    | 0, h => cases h; exact bs_jR (bs_R.uq H (g := 10) rfl)
    | 1, h => cases h; exact sf_j0
    | 2, h => cases h; exact sf_j0
    | 3, h => cases h; exact sf_j0
    | q + 4, h => cases h
  obtain ⟨z377, rfl⟩ := bs_anI ahp375
  have E378 := lw_keep H fhp375 rfl rfl rfl rfl rfl hs
  obtain ⟨ew1, hC1, hX1⟩ := pC H (d_hunger hC hD _ _ _) xhp375 hX
  refine (show Ev _ 1091 ([some (.retAddr 0), some (.ref 0), some (.ref 69), some (.ref 87), some (.int z), a5, a6], [.int z377], (m + 0, k + 0), hp375) _ from ?_)
  refine Ev.step (j := 1092) (s' := ([some (.retAddr 0), some (.ref 0), some (.ref 69), some (.ref 87), some (.int z), a5, a6], [], (m + 0, k + 0), hp375)) rfl rfl ?_
  refine Ev.step (j := 1093) (s' := ([some (.retAddr 0), some (.ref 0), some (.ref 69), some (.ref 87), some (.int z), a5, a6], [.ref 69], (m + 0, k + 0), hp375)) rfl rfl ?_
  refine Ev.step (j := 1094) (s' := ([some (.retAddr 0), some (.ref 0), some (.ref 69), some (.ref 87), some (.int z), a5, a6], [.retAddr 0, .ref 69], (m + 0, k + 0), hp375)) rfl rfl ?_
  refine Ev.step (j := 1096) (s' := ([some (.retAddr 0), some (.ref 0), some (.ref 69), some (.ref 87), some (.int z), a5, a6], [.int z, .retAddr 0, .ref 69], (m + 0, k + 0), hp375)) rfl rfl ?_
  refine bs_lit (k := 1) rfl rfl fun z379 hz379 => ?_
  refine bs_add rfl (by omega) (by omega) fun z380 hz380 => ?_
  refine ls_sld rfl (by omega) (by omega) ?_
  refine (show Ev _ 1099 ([some (.retAddr 0), some (.ref 0), some (.ref 69), some (.ref 87), some (.int z), a5, a6], [.int (xs z380.toNatClampNeg), .ref 69], (m + 0, k + 0), hp375) _ from ?_)
  refine Ev.step (j := 1100) (s' := ([some (.retAddr 0), some (.ref 0), some (.ref 69), some (.ref 87), some (.int z), a5, a6], [.retAddr 0, .int (xs z380.toNatClampNeg), .ref 69], (m + 0, k + 0), hp375)) rfl rfl ?_
  refine Ev.step (j := 1102) (s' := ([some (.retAddr 0), some (.ref 0), some (.ref 69), some (.ref 87), some (.int z), a5, a6], [.int z, .retAddr 0, .int (xs z380.toNatClampNeg), .ref 69], (m + 0, k + 0), hp375)) rfl rfl ?_
  refine bs_lit (k := 2) rfl rfl fun z381 hz381 => ?_
  refine bs_add rfl (by omega) (by omega) fun z382 hz382 => ?_
  refine ls_sld rfl (by omega) (by omega) ?_
  refine (show Ev _ 1105 ([some (.retAddr 0), some (.ref 0), some (.ref 69), some (.ref 87), some (.int z), a5, a6], [.int (xs z382.toNatClampNeg), .int (xs z380.toNatClampNeg), .ref 69], (m + 0, k + 0), hp375) _ from ?_)
  refine Ev.step (j := 1106) (s' := ([some (.retAddr 0), some (.ref 0), some (.ref 69), some (.ref 87), some (.int z), a5, a6], [.retAddr 0, .int (xs z382.toNatClampNeg), .int (xs z380.toNatClampNeg), .ref 69], (m + 0, k + 0), hp375)) rfl rfl ?_
  refine Ev.step (j := 1108) (s' := ([some (.retAddr 0), some (.ref 0), some (.ref 69), some (.ref 87), some (.int z), a5, a6], [.int z, .retAddr 0, .int (xs z382.toNatClampNeg), .int (xs z380.toNatClampNeg), .ref 69], (m + 0, k + 0), hp375)) rfl rfl ?_
  refine bs_lit (k := 3) rfl rfl fun z383 hz383 => ?_
  refine bs_add rfl (by omega) (by omega) fun z384 hz384 => ?_
  refine ls_sld rfl (by omega) (by omega) ?_
  refine (show Ev _ 1111 ([some (.retAddr 0), some (.ref 0), some (.ref 69), some (.ref 87), some (.int z), a5, a6], [.int (xs z384.toNatClampNeg), .int (xs z382.toNatClampNeg), .int (xs z380.toNatClampNeg), .ref 69], (m + 0, k + 0), hp375) _ from ?_)
  refine bs_callx (K := kq_X11_hunger_3518ea) [.ref 69, .int (xs z380.toNatClampNeg), .int (xs z382.toNatClampNeg), .int (xs z384.toNatClampNeg)] [] rfl (sf_cX ct_X11_hunger_3518ea) Hhp375 rfl rfl rfl (bs_rcv (g := 11) Hhp375 (bs_R.uq Hhp375 (g := 11) rfl) (by decide) rfl) (ls_room (Nat.le_of_ble_eq_true rfl) (by omega) (by omega)) ?_ (sf_S_nil) fun r386 hp385 thp385 Hhp385 fhp385 ahp385 php385 xhp385 => ?_
  · intro q k h
    match q, h with
    | 0, h => cases h; exact bs_jR (bs_R.uq Hhp375 (g := 11) rfl)
    | 1, h => cases h; exact sf_j0
    | 2, h => cases h; exact sf_j0
    | 3, h => cases h; exact sf_j0
    | q + 4, h => cases h
  obtain ⟨z387, rfl⟩ := bs_anI ahp385
  have E388 := lw_keep Hhp375 fhp385 rfl rfl rfl rfl rfl E378
  rw [show z380 = z370 from Int32.toInt_inj.mp (by omega)] at xhp385
  rw [show z382 = z372 from Int32.toInt_inj.mp (by omega)] at xhp385
  rw [show z384 = z374 from Int32.toInt_inj.mp (by omega)] at xhp385
  obtain ⟨ew2, hX2, hC2⟩ := pX Hhp375 (e_hunger hX1 hD _ _ _) xhp385 hC1
  refine (show Ev _ 1114 ([some (.retAddr 0), some (.ref 0), some (.ref 69), some (.ref 87), some (.int z), a5, a6], [.int z387], (m + 0 + 0, k + 0 + 0), hp385) _ from ?_)
  refine Ev.step (j := 1115) (s' := ([some (.retAddr 0), some (.ref 0), some (.ref 69), some (.ref 87), some (.int z), a5, a6], [], (m + 0 + 0, k + 0 + 0), hp385)) rfl rfl ?_
  refine Ev.step (j := 1468) (s' := ([some (.retAddr 0), some (.ref 0), some (.ref 69), some (.ref 87), some (.int z), a5, a6], [], (m + 0 + 0, k + 0 + 0), hp385)) rfl rfl ?_
  exact K _ _ _ _ _ _ Hhp385 ⟨E388, _, hD, hC2, hX2⟩ (by omega) (by omega)
set_option maxRecDepth 100000 in
set_option maxHeartbeats 4000000 in
theorem op_prices {xs : Nat → Int32} {n : Nat} {z : Int32} {a5 a6 : Option Value} {m k : Nat} {hp : ab_H} {t : Nat → Nat} {Q : ab_O → Prop} (H : sf_h t hp) (hs : lw_eq hp) (hz0 : 0 ≤ z.toInt) (hz1 : z.toInt + 6 ≤ n) (hn : n ≤ 3072) (hm : m + 21 ≤ 709736) (hk : k + 410 ≤ 6966897) (K : lw_K xs n z m k Q) : Ev (LT xs n) 1118 ([some (.retAddr 0), some (.ref 0), some (.ref 69), some (.ref 87), some (.int z), a5, a6], [], (m, k), hp) Q := by
  obtain ⟨hs, D, hD, hC, hX⟩ := hs
  refine Ev.step (j := 1119) (s' := ([some (.retAddr 0), some (.ref 0), some (.ref 69), some (.ref 87), some (.int z), a5, a6], [.ref 0], (m, k), hp)) rfl rfl ?_
  refine bs_callx (K := kq_X10_prices_4c18a7) [.ref 0] [] rfl (sf_cX ct_X10_prices_4c18a7) H rfl rfl rfl (bs_rcv (g := 10) H (bs_R.uq H (g := 10) rfl) (by decide) rfl) (ls_room (Nat.le_of_ble_eq_true rfl) (by omega) (by omega)) ?_ (sf_S_nil) fun r390 hp389 thp389 Hhp389 fhp389 ahp389 php389 xhp389 => ?_
  · intro q k h
    match q, h with
    | 0, h => cases h; exact bs_jR (bs_R.uq H (g := 10) rfl)
    | q + 1, h => cases h
  obtain ⟨z391, rfl⟩ := bs_anI ahp389
  have E392 := lw_keep H fhp389 rfl rfl rfl rfl rfl hs
  obtain ⟨ew1, hC1, hX1⟩ := pC H (d_prices hC) xhp389 hX
  refine (show Ev _ 1122 ([some (.retAddr 0), some (.ref 0), some (.ref 69), some (.ref 87), some (.int z), a5, a6], [.int z391], (m + 0, k + 0), hp389) _ from ?_)
  refine Ev.step (j := 1123) (s' := ([some (.retAddr 0), some (.ref 0), some (.ref 69), some (.ref 87), some (.int z), a5, a6], [], (m + 0, k + 0), hp389)) rfl rfl ?_
  refine Ev.step (j := 1124) (s' := ([some (.retAddr 0), some (.ref 0), some (.ref 69), some (.ref 87), some (.int z), a5, a6], [.ref 69], (m + 0, k + 0), hp389)) rfl rfl ?_
  refine bs_callx (K := kq_X11_prices_6afe8b) [.ref 69] [] rfl (sf_cX ct_X11_prices_6afe8b) Hhp389 rfl rfl rfl (bs_rcv (g := 11) Hhp389 (bs_R.uq Hhp389 (g := 11) rfl) (by decide) rfl) (ls_room (Nat.le_of_ble_eq_true rfl) (by omega) (by omega)) ?_ (sf_S_nil) fun r394 hp393 thp393 Hhp393 fhp393 ahp393 php393 xhp393 => ?_
  · intro q k h
    match q, h with
    | 0, h => cases h; exact bs_jR (bs_R.uq Hhp389 (g := 11) rfl)
    | q + 1, h => cases h
  obtain ⟨z395, rfl⟩ := bs_anI ahp393
  have E396 := lw_keep Hhp389 fhp393 rfl rfl rfl rfl rfl E392
  obtain ⟨ew2, hX2, hC2⟩ := pX Hhp389 (e_prices hX1 hD) xhp393 hC1
  refine (show Ev _ 1127 ([some (.retAddr 0), some (.ref 0), some (.ref 69), some (.ref 87), some (.int z), a5, a6], [.int z395], (m + 0 + 0, k + 0 + 0), hp393) _ from ?_)
  refine Ev.step (j := 1128) (s' := ([some (.retAddr 0), some (.ref 0), some (.ref 69), some (.ref 87), some (.int z), a5, a6], [], (m + 0 + 0, k + 0 + 0), hp393)) rfl rfl ?_
  refine Ev.step (j := 1468) (s' := ([some (.retAddr 0), some (.ref 0), some (.ref 69), some (.ref 87), some (.int z), a5, a6], [], (m + 0 + 0, k + 0 + 0), hp393)) rfl rfl ?_
  exact K _ _ _ _ _ _ Hhp393 ⟨E396, _, hD, hC2, hX2⟩ (by omega) (by omega)
end
