-- 65.o1.lean.txt
section
set_option maxRecDepth 100000 in
set_option maxHeartbeats 4000000 in
theorem op_undo {xs : Nat → Int32} {n : Nat} {z : Int32} {a5 a6 : Option Value} {m k : Nat} {hp : ab_H} {t : Nat → Nat} {Q : ab_O → Prop} (H : sf_h t hp) (hs : lw_eq hp) (hz0 : 0 ≤ z.toInt) (hz1 : z.toInt + 6 ≤ n) (hn : n ≤ 3072) (hm : m + 21 ≤ 601024) (hk : k + 410 ≤ 7293034) (K : lw_K xs n z m k Q) : Ev (LT xs n) 729 ([some (.retAddr 0), some (.ref 0), some (.ref 69), some (.ref 87), some (.int z), a5, a6], [], (m, k), hp) Q := by
  obtain ⟨hs, D, hD, hC, hX⟩ := hs
  refine Ev.step (j := 730) (s' := ([some (.retAddr 0), some (.ref 0), some (.ref 69), some (.ref 87), some (.int z), a5, a6], [.ref 0], (m, k), hp)) rfl rfl ?_
  refine bs_callx (K := kq_X10_undo_4c18a7) [.ref 0] [] rfl (sf_cX ct_X10_undo_4c18a7) H rfl rfl rfl (bs_rcv (g := 10) H (bs_R.uq H (g := 10) rfl) (by decide) rfl) (ls_room (Nat.le_of_ble_eq_true rfl) (by omega) (by omega)) ?_ (sf_S_nil) fun r216 hp215 thp215 Hhp215 fhp215 ahp215 php215 xhp215 => ?_
  · intro q k h
    match q, h with
    | 0, h => cases h; exact bs_jR (bs_R.uq H (g := 10) rfl)
    | q + 1, h => cases h
  obtain ⟨z217, rfl⟩ := bs_anI ahp215
  have E218 := lw_keep H fhp215 rfl rfl rfl rfl rfl hs
  obtain ⟨ew1, hC1, hX1⟩ := pC H (d_undo hC) xhp215 hX
  refine (show Ev _ 733 ([some (.retAddr 0), some (.ref 0), some (.ref 69), some (.ref 87), some (.int z), a5, a6], [.int z217], (m + 0, k + 0), hp215) _ from ?_)
  refine Ev.step (j := 734) (s' := ([some (.retAddr 0), some (.ref 0), some (.ref 69), some (.ref 87), some (.int z), a5, a6], [], (m + 0, k + 0), hp215)) rfl rfl ?_
  exact by
   refine Ev.step (j := 735) (s' := ([some (.retAddr 0), some (.ref 0), some (.ref 69), some (.ref 87), some (.int z), a5, a6], [.ref 69], (m + 0, k + 0), hp215)) rfl rfl ?_
   refine bs_callx (K := kq_X11_undo_h) [.ref 69] [] rfl (sf_cX ct_X11_undo_h) Hhp215 rfl rfl rfl (bs_rcv (g := 11) Hhp215 (bs_R.uq Hhp215 (g := 11) rfl) (by decide) rfl) (ls_room (Nat.le_of_ble_eq_true rfl) (by omega) (by omega)) ?_ (sf_S_nil) fun r220 hp219 thp219 Hhp219 fhp219 ahp219 php219 xhp219 => ?_
   · intro q k h
     match q, h with
     | 0, h => cases h; exact bs_jR (bs_R.uq Hhp215 (g := 11) rfl)
     | q + 1, h => cases h
   obtain ⟨z221, rfl⟩ := bs_anI ahp219
   have E222 := lw_keep Hhp215 fhp219 rfl rfl rfl rfl rfl E218
   obtain ⟨ew2, hX2, hC2⟩ := pX Hhp215 (e_undo hX1) xhp219 hC1
   refine (show Ev _ 738 ([some (.retAddr 0), some (.ref 0), some (.ref 69), some (.ref 87), some (.int z), a5, a6], [.int z221], (m + 0 + 0, k + 0 + 0), hp219) _ from ?_)
   refine Ev.step (j := 739) (s' := ([some (.retAddr 0), some (.ref 0), some (.ref 69), some (.ref 87), some (.int z), a5, a6], [], (m + 0 + 0, k + 0 + 0), hp219)) rfl rfl ?_
   refine Ev.step (j := 1440) (s' := ([some (.retAddr 0), some (.ref 0), some (.ref 69), some (.ref 87), some (.int z), a5, a6], [], (m + 0 + 0, k + 0 + 0), hp219)) rfl rfl ?_
   exact K _ _ _ _ _ _ Hhp219 ⟨E222, _, hD.u, hC2, hX2⟩ (by omega) (by omega)
set_option maxRecDepth 100000 in
set_option maxHeartbeats 4000000 in
theorem op_lacks {xs : Nat → Int32} {n : Nat} {z : Int32} {a5 a6 : Option Value} {m k : Nat} {hp : ab_H} {t : Nat → Nat} {Q : ab_O → Prop} (H : sf_h t hp) (hs : lw_eq hp) (hz0 : 0 ≤ z.toInt) (hz1 : z.toInt + 6 ≤ n) (hn : n ≤ 3072) (hm : m + 21 ≤ 601024) (hk : k + 410 ≤ 7293034) (K : lw_K xs n z m k Q) : Ev (LT xs n) 742 ([some (.retAddr 0), some (.ref 0), some (.ref 69), some (.ref 87), some (.int z), a5, a6], [], (m, k), hp) Q := by
  obtain ⟨hs, D, hD, hC, hX⟩ := hs
  refine Ev.step (j := 743) (s' := ([some (.retAddr 0), some (.ref 0), some (.ref 69), some (.ref 87), some (.int z), a5, a6], [.ref 0], (m, k), hp)) rfl rfl ?_
  refine Ev.step (j := 744) (s' := ([some (.retAddr 0), some (.ref 0), some (.ref 69), some (.ref 87), some (.int z), a5, a6], [.retAddr 0, .ref 0], (m, k), hp)) rfl rfl ?_
  refine Ev.step (j := 746) (s' := ([some (.retAddr 0), some (.ref 0), some (.ref 69), some (.ref 87), some (.int z), a5, a6], [.int z, .retAddr 0, .ref 0], (m, k), hp)) rfl rfl ?_
  refine bs_lit (k := 1) rfl rfl fun z223 hz223 => ?_
  refine bs_add rfl (by omega) (by omega) fun z224 hz224 => ?_
  refine ls_sld rfl (by omega) (by omega) ?_
  refine (show Ev _ 749 ([some (.retAddr 0), some (.ref 0), some (.ref 69), some (.ref 87), some (.int z), a5, a6], [.int (xs z224.toNatClampNeg), .ref 0], (m, k), hp) _ from ?_)
  exact by
   refine bs_callx (K := kq_X10_lacks_0df2a5) [.ref 0, .int (xs z224.toNatClampNeg)] [] rfl (sf_cX ct_X10_lacks_0df2a5) H rfl rfl rfl (bs_rcv (g := 10) H (bs_R.uq H (g := 10) rfl) (by decide) rfl) (ls_room (Nat.le_of_ble_eq_true rfl) (by omega) (by omega)) ?_ (sf_S_nil) fun r226 hp225 thp225 Hhp225 fhp225 ahp225 php225 xhp225 => ?_
   · intro q k h
     match q, h with
     | 0, h => cases h; exact bs_jR (bs_R.uq H (g := 10) rfl)
     | 1, h => cases h; exact sf_j0
     | q + 2, h => cases h
   obtain ⟨z227, rfl⟩ := bs_anI ahp225
   have E228 := lw_keep H fhp225 rfl rfl rfl rfl rfl hs
   obtain ⟨ew1, hC1, hX1⟩ := pC H (d_lacks hC hD _) xhp225 hX
   refine (show Ev _ 752 ([some (.retAddr 0), some (.ref 0), some (.ref 69), some (.ref 87), some (.int z), a5, a6], [.int z227], (m + 0, k + 0), hp225) _ from ?_)
   refine Ev.step (j := 753) (s' := ([some (.retAddr 0), some (.ref 0), some (.ref 69), some (.ref 87), some (.int z), a5, a6], [], (m + 0, k + 0), hp225)) rfl rfl ?_
   refine Ev.step (j := 754) (s' := ([some (.retAddr 0), some (.ref 0), some (.ref 69), some (.ref 87), some (.int z), a5, a6], [.ref 69], (m + 0, k + 0), hp225)) rfl rfl ?_
   refine Ev.step (j := 755) (s' := ([some (.retAddr 0), some (.ref 0), some (.ref 69), some (.ref 87), some (.int z), a5, a6], [.retAddr 0, .ref 69], (m + 0, k + 0), hp225)) rfl rfl ?_
   exact by
    refine Ev.step (j := 757) (s' := ([some (.retAddr 0), some (.ref 0), some (.ref 69), some (.ref 87), some (.int z), a5, a6], [.int z, .retAddr 0, .ref 69], (m + 0, k + 0), hp225)) rfl rfl ?_
    refine bs_lit (k := 1) rfl rfl fun z229 hz229 => ?_
    refine bs_add rfl (by omega) (by omega) fun z230 hz230 => ?_
    refine ls_sld rfl (by omega) (by omega) ?_
    refine (show Ev _ 760 ([some (.retAddr 0), some (.ref 0), some (.ref 69), some (.ref 87), some (.int z), a5, a6], [.int (xs z230.toNatClampNeg), .ref 69], (m + 0, k + 0), hp225) _ from ?_)
    refine bs_callx (K := kq_X11_lacks_3d45d6) [.ref 69, .int (xs z230.toNatClampNeg)] [] rfl (sf_cX ct_X11_lacks_3d45d6) Hhp225 rfl rfl rfl (bs_rcv (g := 11) Hhp225 (bs_R.uq Hhp225 (g := 11) rfl) (by decide) rfl) (ls_room (Nat.le_of_ble_eq_true rfl) (by omega) (by omega)) ?_ (sf_S_nil) fun r232 hp231 thp231 Hhp231 fhp231 ahp231 php231 xhp231 => ?_
    · intro q k h
      match q, h with
      | 0, h => cases h; exact bs_jR (bs_R.uq Hhp225 (g := 11) rfl)
      | 1, h => cases h; exact sf_j0
      | q + 2, h => cases h
    obtain ⟨z233, rfl⟩ := bs_anI ahp231
    have E234 := lw_keep Hhp225 fhp231 rfl rfl rfl rfl rfl E228
    rw [show z230 = z224 from Int32.toInt_inj.mp (by omega)] at xhp231
    obtain ⟨ew2, hX2, hC2⟩ := pX Hhp225 (e_lacks hX1 hD _) xhp231 hC1
    refine (show Ev _ 763 ([some (.retAddr 0), some (.ref 0), some (.ref 69), some (.ref 87), some (.int z), a5, a6], [.int z233], (m + 0 + 0, k + 0 + 0), hp231) _ from ?_)
    exact by
     refine Ev.step (j := 764) (s' := ([some (.retAddr 0), some (.ref 0), some (.ref 69), some (.ref 87), some (.int z), a5, a6], [], (m + 0 + 0, k + 0 + 0), hp231)) rfl rfl ?_
     refine Ev.step (j := 1440) (s' := ([some (.retAddr 0), some (.ref 0), some (.ref 69), some (.ref 87), some (.int z), a5, a6], [], (m + 0 + 0, k + 0 + 0), hp231)) rfl rfl ?_
     exact K _ _ _ _ _ _ Hhp231 ⟨E234, _, hD, hC2, hX2⟩ (by omega) (by omega)
set_option maxRecDepth 100000 in
set_option maxHeartbeats 4000000 in
theorem op_falses {xs : Nat → Int32} {n : Nat} {z : Int32} {a5 a6 : Option Value} {m k : Nat} {hp : ab_H} {t : Nat → Nat} {Q : ab_O → Prop} (H : sf_h t hp) (hs : lw_eq hp) (hz0 : 0 ≤ z.toInt) (hz1 : z.toInt + 6 ≤ n) (hn : n ≤ 3072) (hm : m + 21 ≤ 601024) (hk : k + 410 ≤ 7293034) (K : lw_K xs n z m k Q) : Ev (LT xs n) 767 ([some (.retAddr 0), some (.ref 0), some (.ref 69), some (.ref 87), some (.int z), a5, a6], [], (m, k), hp) Q := by
  obtain ⟨hs, D, hD, hC, hX⟩ := hs
  refine Ev.step (j := 768) (s' := ([some (.retAddr 0), some (.ref 0), some (.ref 69), some (.ref 87), some (.int z), a5, a6], [.ref 0], (m, k), hp)) rfl rfl ?_
  refine Ev.step (j := 769) (s' := ([some (.retAddr 0), some (.ref 0), some (.ref 69), some (.ref 87), some (.int z), a5, a6], [.retAddr 0, .ref 0], (m, k), hp)) rfl rfl ?_
  refine Ev.step (j := 771) (s' := ([some (.retAddr 0), some (.ref 0), some (.ref 69), some (.ref 87), some (.int z), a5, a6], [.int z, .retAddr 0, .ref 0], (m, k), hp)) rfl rfl ?_
  refine bs_lit (k := 1) rfl rfl fun z235 hz235 => ?_
  refine bs_add rfl (by omega) (by omega) fun z236 hz236 => ?_
  refine ls_sld rfl (by omega) (by omega) ?_
  refine (show Ev _ 774 ([some (.retAddr 0), some (.ref 0), some (.ref 69), some (.ref 87), some (.int z), a5, a6], [.int (xs z236.toNatClampNeg), .ref 0], (m, k), hp) _ from ?_)
  exact by
   refine bs_callx (K := kq_X10_falses_0df2a5) [.ref 0, .int (xs z236.toNatClampNeg)] [] rfl (sf_cX ct_X10_falses_0df2a5) H rfl rfl rfl (bs_rcv (g := 10) H (bs_R.uq H (g := 10) rfl) (by decide) rfl) (ls_room (Nat.le_of_ble_eq_true rfl) (by omega) (by omega)) ?_ (sf_S_nil) fun r238 hp237 thp237 Hhp237 fhp237 ahp237 php237 xhp237 => ?_
   · intro q k h
     match q, h with
     | 0, h => cases h; exact bs_jR (bs_R.uq H (g := 10) rfl)
     | 1, h => cases h; exact sf_j0
     | q + 2, h => cases h
   obtain ⟨z239, rfl⟩ := bs_anI ahp237
   have E240 := lw_keep H fhp237 rfl rfl rfl rfl rfl hs
   obtain ⟨ew1, hC1, hX1⟩ := pC H (d_falses hC hD _) xhp237 hX
   refine (show Ev _ 777 ([some (.retAddr 0), some (.ref 0), some (.ref 69), some (.ref 87), some (.int z), a5, a6], [.int z239], (m + 0, k + 0), hp237) _ from ?_)
   refine Ev.step (j := 778) (s' := ([some (.retAddr 0), some (.ref 0), some (.ref 69), some (.ref 87), some (.int z), a5, a6], [], (m + 0, k + 0), hp237)) rfl rfl ?_
   refine Ev.step (j := 779) (s' := ([some (.retAddr 0), some (.ref 0), some (.ref 69), some (.ref 87), some (.int z), a5, a6], [.ref 69], (m + 0, k + 0), hp237)) rfl rfl ?_
   refine Ev.step (j := 780) (s' := ([some (.retAddr 0), some (.ref 0), some (.ref 69), some (.ref 87), some (.int z), a5, a6], [.retAddr 0, .ref 69], (m + 0, k + 0), hp237)) rfl rfl ?_
   exact by
    refine Ev.step (j := 782) (s' := ([some (.retAddr 0), some (.ref 0), some (.ref 69), some (.ref 87), some (.int z), a5, a6], [.int z, .retAddr 0, .ref 69], (m + 0, k + 0), hp237)) rfl rfl ?_
    refine bs_lit (k := 1) rfl rfl fun z241 hz241 => ?_
    refine bs_add rfl (by omega) (by omega) fun z242 hz242 => ?_
    refine ls_sld rfl (by omega) (by omega) ?_
    refine (show Ev _ 785 ([some (.retAddr 0), some (.ref 0), some (.ref 69), some (.ref 87), some (.int z), a5, a6], [.int (xs z242.toNatClampNeg), .ref 69], (m + 0, k + 0), hp237) _ from ?_)
    refine bs_callx (K := kq_X11_falses_3d45d6) [.ref 69, .int (xs z242.toNatClampNeg)] [] rfl (sf_cX ct_X11_falses_3d45d6) Hhp237 rfl rfl rfl (bs_rcv (g := 11) Hhp237 (bs_R.uq Hhp237 (g := 11) rfl) (by decide) rfl) (ls_room (Nat.le_of_ble_eq_true rfl) (by omega) (by omega)) ?_ (sf_S_nil) fun r244 hp243 thp243 Hhp243 fhp243 ahp243 php243 xhp243 => ?_
    · intro q k h
      match q, h with
      | 0, h => cases h; exact bs_jR (bs_R.uq Hhp237 (g := 11) rfl)
      | 1, h => cases h; exact sf_j0
      | q + 2, h => cases h
    obtain ⟨z245, rfl⟩ := bs_anI ahp243
    have E246 := lw_keep Hhp237 fhp243 rfl rfl rfl rfl rfl E240
    rw [show z242 = z236 from Int32.toInt_inj.mp (by omega)] at xhp243
    obtain ⟨ew2, hX2, hC2⟩ := pX Hhp237 (e_falses hX1 hD _) xhp243 hC1
    refine (show Ev _ 788 ([some (.retAddr 0), some (.ref 0), some (.ref 69), some (.ref 87), some (.int z), a5, a6], [.int z245], (m + 0 + 0, k + 0 + 0), hp243) _ from ?_)
    exact by
     refine Ev.step (j := 789) (s' := ([some (.retAddr 0), some (.ref 0), some (.ref 69), some (.ref 87), some (.int z), a5, a6], [], (m + 0 + 0, k + 0 + 0), hp243)) rfl rfl ?_
     refine Ev.step (j := 1440) (s' := ([some (.retAddr 0), some (.ref 0), some (.ref 69), some (.ref 87), some (.int z), a5, a6], [], (m + 0 + 0, k + 0 + 0), hp243)) rfl rfl ?_
     exact K _ _ _ _ _ _ Hhp243 ⟨E246, _, hD, hC2, hX2⟩ (by omega) (by omega)
set_option maxRecDepth 100000 in
set_option maxHeartbeats 4000000 in
theorem op_going {xs : Nat → Int32} {n : Nat} {z : Int32} {a5 a6 : Option Value} {m k : Nat} {hp : ab_H} {t : Nat → Nat} {Q : ab_O → Prop} (H : sf_h t hp) (hs : lw_eq hp) (hz0 : 0 ≤ z.toInt) (hz1 : z.toInt + 6 ≤ n) (hn : n ≤ 3072) (hm : m + 21 ≤ 601024) (hk : k + 410 ≤ 7293034) (K : lw_K xs n z m k Q) : Ev (LT xs n) 792 ([some (.retAddr 0), some (.ref 0), some (.ref 69), some (.ref 87), some (.int z), a5, a6], [], (m, k), hp) Q := by
  obtain ⟨hs, D, hD, hC, hX⟩ := hs
  refine Ev.step (j := 793) (s' := ([some (.retAddr 0), some (.ref 0), some (.ref 69), some (.ref 87), some (.int z), a5, a6], [.ref 0], (m, k), hp)) rfl rfl ?_
  refine bs_callx (K := kq_X10_going_4c18a7) [.ref 0] [] rfl (sf_cX ct_X10_going_4c18a7) H rfl rfl rfl (bs_rcv (g := 10) H (bs_R.uq H (g := 10) rfl) (by decide) rfl) (ls_room (Nat.le_of_ble_eq_true rfl) (by omega) (by omega)) ?_ (sf_S_nil) fun r248 hp247 thp247 Hhp247 fhp247 ahp247 php247 xhp247 => ?_
  · intro q k h
    match q, h with
    | 0, h => cases h; exact bs_jR (bs_R.uq H (g := 10) rfl)
    | q + 1, h => cases h
  obtain ⟨z249, rfl⟩ := bs_anI ahp247
  have E250 := lw_keep H fhp247 rfl rfl rfl rfl rfl hs
  obtain ⟨ew1, hC1, hX1⟩ := pC H (d_going hC hD) xhp247 hX
  refine (show Ev _ 796 ([some (.retAddr 0), some (.ref 0), some (.ref 69), some (.ref 87), some (.int z), a5, a6], [.int z249], (m + 0, k + 0), hp247) _ from ?_)
  refine Ev.step (j := 797) (s' := ([some (.retAddr 0), some (.ref 0), some (.ref 69), some (.ref 87), some (.int z), a5, a6], [], (m + 0, k + 0), hp247)) rfl rfl ?_
  exact by
   refine Ev.step (j := 798) (s' := ([some (.retAddr 0), some (.ref 0), some (.ref 69), some (.ref 87), some (.int z), a5, a6], [.ref 69], (m + 0, k + 0), hp247)) rfl rfl ?_
   refine bs_callx (K := kq_X11_going_6afe8b) [.ref 69] [] rfl (sf_cX ct_X11_going_6afe8b) Hhp247 rfl rfl rfl (bs_rcv (g := 11) Hhp247 (bs_R.uq Hhp247 (g := 11) rfl) (by decide) rfl) (ls_room (Nat.le_of_ble_eq_true rfl) (by omega) (by omega)) ?_ (sf_S_nil) fun r252 hp251 thp251 Hhp251 fhp251 ahp251 php251 xhp251 => ?_
   · intro q k h
     match q, h with
     | 0, h => cases h; exact bs_jR (bs_R.uq Hhp247 (g := 11) rfl)
     | q + 1, h => cases h
   obtain ⟨z253, rfl⟩ := bs_anI ahp251
   have E254 := lw_keep Hhp247 fhp251 rfl rfl rfl rfl rfl E250
   obtain ⟨ew2, hX2, hC2⟩ := pX Hhp247 (e_going hX1 hD) xhp251 hC1
   refine (show Ev _ 801 ([some (.retAddr 0), some (.ref 0), some (.ref 69), some (.ref 87), some (.int z), a5, a6], [.int z253], (m + 0 + 0, k + 0 + 0), hp251) _ from ?_)
   refine Ev.step (j := 802) (s' := ([some (.retAddr 0), some (.ref 0), some (.ref 69), some (.ref 87), some (.int z), a5, a6], [], (m + 0 + 0, k + 0 + 0), hp251)) rfl rfl ?_
   refine Ev.step (j := 1440) (s' := ([some (.retAddr 0), some (.ref 0), some (.ref 69), some (.ref 87), some (.int z), a5, a6], [], (m + 0 + 0, k + 0 + 0), hp251)) rfl rfl ?_
   exact K _ _ _ _ _ _ Hhp251 ⟨E254, _, hD, hC2, hX2⟩ (by omega) (by omega)
set_option maxRecDepth 100000 in
set_option maxHeartbeats 4000000 in
theorem op_goes {xs : Nat → Int32} {n : Nat} {z : Int32} {a5 a6 : Option Value} {m k : Nat} {hp : ab_H} {t : Nat → Nat} {Q : ab_O → Prop} (H : sf_h t hp) (hs : lw_eq hp) (hz0 : 0 ≤ z.toInt) (hz1 : z.toInt + 6 ≤ n) (hn : n ≤ 3072) (hm : m + 21 ≤ 601024) (hk : k + 410 ≤ 7293034) (K : lw_K xs n z m k Q) : Ev (LT xs n) 805 ([some (.retAddr 0), some (.ref 0), some (.ref 69), some (.ref 87), some (.int z), a5, a6], [], (m, k), hp) Q := by
  obtain ⟨hs, D, hD, hC, hX⟩ := hs
  refine Ev.step (j := 806) (s' := ([some (.retAddr 0), some (.ref 0), some (.ref 69), some (.ref 87), some (.int z), a5, a6], [.ref 0], (m, k), hp)) rfl rfl ?_
  refine Ev.step (j := 807) (s' := ([some (.retAddr 0), some (.ref 0), some (.ref 69), some (.ref 87), some (.int z), a5, a6], [.retAddr 0, .ref 0], (m, k), hp)) rfl rfl ?_
  refine Ev.step (j := 809) (s' := ([some (.retAddr 0), some (.ref 0), some (.ref 69), some (.ref 87), some (.int z), a5, a6], [.int z, .retAddr 0, .ref 0], (m, k), hp)) rfl rfl ?_
  refine bs_lit (k := 1) rfl rfl fun z255 hz255 => ?_
  refine bs_add rfl (by omega) (by omega) fun z256 hz256 => ?_
  refine ls_sld rfl (by omega) (by omega) ?_
  refine (show Ev _ 812 ([some (.retAddr 0), some (.ref 0), some (.ref 69), some (.ref 87), some (.int z), a5, a6], [.int (xs z256.toNatClampNeg), .ref 0], (m, k), hp) _ from ?_)
  exact by
   refine bs_callx (K := kq_X10_goes_0df2a5) [.ref 0, .int (xs z256.toNatClampNeg)] [] rfl (sf_cX ct_X10_goes_0df2a5) H rfl rfl rfl (bs_rcv (g := 10) H (bs_R.uq H (g := 10) rfl) (by decide) rfl) (ls_room (Nat.le_of_ble_eq_true rfl) (by omega) (by omega)) ?_ (sf_S_nil) fun r258 hp257 thp257 Hhp257 fhp257 ahp257 php257 xhp257 => ?_
   · intro q k h
     match q, h with
     | 0, h => cases h; exact bs_jR (bs_R.uq H (g := 10) rfl)
     | 1, h => cases h; exact sf_j0
     | q + 2, h => cases h
   obtain ⟨z259, rfl⟩ := bs_anI ahp257
   have E260 := lw_keep H fhp257 rfl rfl rfl rfl rfl hs
   obtain ⟨ew1, hC1, hX1⟩ := pC H (d_goes hC hD _) xhp257 hX
   refine (show Ev _ 815 ([some (.retAddr 0), some (.ref 0), some (.ref 69), some (.ref 87), some (.int z), a5, a6], [.int z259], (m + 0, k + 0), hp257) _ from ?_)
   refine Ev.step (j := 816) (s' := ([some (.retAddr 0), some (.ref 0), some (.ref 69), some (.ref 87), some (.int z), a5, a6], [], (m + 0, k + 0), hp257)) rfl rfl ?_
   refine Ev.step (j := 817) (s' := ([some (.retAddr 0), some (.ref 0), some (.ref 69), some (.ref 87), some (.int z), a5, a6], [.ref 69], (m + 0, k + 0), hp257)) rfl rfl ?_
   refine Ev.step (j := 818) (s' := ([some (.retAddr 0), some (.ref 0), some (.ref 69), some (.ref 87), some (.int z), a5, a6], [.retAddr 0, .ref 69], (m + 0, k + 0), hp257)) rfl rfl ?_
   exact by
    refine Ev.step (j := 820) (s' := ([some (.retAddr 0), some (.ref 0), some (.ref 69), some (.ref 87), some (.int z), a5, a6], [.int z, .retAddr 0, .ref 69], (m + 0, k + 0), hp257)) rfl rfl ?_
    refine bs_lit (k := 1) rfl rfl fun z261 hz261 => ?_
    refine bs_add rfl (by omega) (by omega) fun z262 hz262 => ?_
    refine ls_sld rfl (by omega) (by omega) ?_
    refine (show Ev _ 823 ([some (.retAddr 0), some (.ref 0), some (.ref 69), some (.ref 87), some (.int z), a5, a6], [.int (xs z262.toNatClampNeg), .ref 69], (m + 0, k + 0), hp257) _ from ?_)
    refine bs_callx (K := kq_X11_goes_h) [.ref 69, .int (xs z262.toNatClampNeg)] [] rfl (sf_cX ct_X11_goes_h) Hhp257 rfl rfl rfl (bs_rcv (g := 11) Hhp257 (bs_R.uq Hhp257 (g := 11) rfl) (by decide) rfl) (ls_room (Nat.le_of_ble_eq_true rfl) (by omega) (by omega)) ?_ (sf_S_nil) fun r264 hp263 thp263 Hhp263 fhp263 ahp263 php263 xhp263 => ?_
    · intro q k h
      match q, h with
      | 0, h => cases h; exact bs_jR (bs_R.uq Hhp257 (g := 11) rfl)
      | 1, h => cases h; exact sf_j0
      | q + 2, h => cases h
    obtain ⟨z265, rfl⟩ := bs_anI ahp263
    have E266 := lw_keep Hhp257 fhp263 rfl rfl rfl rfl rfl E260
    rw [show z262 = z256 from Int32.toInt_inj.mp (by omega)] at xhp263
    obtain ⟨ew2, hX2, hC2⟩ := pX Hhp257 (e_goes hX1 hD _) xhp263 hC1
    refine (show Ev _ 826 ([some (.retAddr 0), some (.ref 0), some (.ref 69), some (.ref 87), some (.int z), a5, a6], [.int z265], (m + 0 + 0, k + 0 + 0), hp263) _ from ?_)
    exact by
     refine Ev.step (j := 827) (s' := ([some (.retAddr 0), some (.ref 0), some (.ref 69), some (.ref 87), some (.int z), a5, a6], [], (m + 0 + 0, k + 0 + 0), hp263)) rfl rfl ?_
     refine Ev.step (j := 1440) (s' := ([some (.retAddr 0), some (.ref 0), some (.ref 69), some (.ref 87), some (.int z), a5, a6], [], (m + 0 + 0, k + 0 + 0), hp263)) rfl rfl ?_
     exact K _ _ _ _ _ _ Hhp263 ⟨E266, _, hD, hC2, hX2⟩ (by omega) (by omega)
set_option maxRecDepth 100000 in
set_option maxHeartbeats 4000000 in
theorem op_crosses {xs : Nat → Int32} {n : Nat} {z : Int32} {a5 a6 : Option Value} {m k : Nat} {hp : ab_H} {t : Nat → Nat} {Q : ab_O → Prop} (H : sf_h t hp) (hs : lw_eq hp) (hz0 : 0 ≤ z.toInt) (hz1 : z.toInt + 6 ≤ n) (hn : n ≤ 3072) (hm : m + 21 ≤ 601024) (hk : k + 410 ≤ 7293034) (K : lw_K xs n z m k Q) : Ev (LT xs n) 830 ([some (.retAddr 0), some (.ref 0), some (.ref 69), some (.ref 87), some (.int z), a5, a6], [], (m, k), hp) Q := by
  obtain ⟨hs, D, hD, hC, hX⟩ := hs
  refine Ev.step (j := 831) (s' := ([some (.retAddr 0), some (.ref 0), some (.ref 69), some (.ref 87), some (.int z), a5, a6], [.ref 0], (m, k), hp)) rfl rfl ?_
  refine Ev.step (j := 832) (s' := ([some (.retAddr 0), some (.ref 0), some (.ref 69), some (.ref 87), some (.int z), a5, a6], [.retAddr 0, .ref 0], (m, k), hp)) rfl rfl ?_
  refine Ev.step (j := 834) (s' := ([some (.retAddr 0), some (.ref 0), some (.ref 69), some (.ref 87), some (.int z), a5, a6], [.int z, .retAddr 0, .ref 0], (m, k), hp)) rfl rfl ?_
  refine bs_lit (k := 1) rfl rfl fun z267 hz267 => ?_
  refine bs_add rfl (by omega) (by omega) fun z268 hz268 => ?_
  refine ls_sld rfl (by omega) (by omega) ?_
  refine (show Ev _ 837 ([some (.retAddr 0), some (.ref 0), some (.ref 69), some (.ref 87), some (.int z), a5, a6], [.int (xs z268.toNatClampNeg), .ref 0], (m, k), hp) _ from ?_)
  exact by
   refine bs_callx (K := kq_X10_crosses_0df2a5) [.ref 0, .int (xs z268.toNatClampNeg)] [] rfl (sf_cX ct_X10_crosses_0df2a5) H rfl rfl rfl (bs_rcv (g := 10) H (bs_R.uq H (g := 10) rfl) (by decide) rfl) (ls_room (Nat.le_of_ble_eq_true rfl) (by omega) (by omega)) ?_ (sf_S_nil) fun r270 hp269 thp269 Hhp269 fhp269 ahp269 php269 xhp269 => ?_
   · intro q k h
     match q, h with
     | 0, h => cases h; exact bs_jR (bs_R.uq H (g := 10) rfl)
     | 1, h => cases h; exact sf_j0
     | q + 2, h => cases h
   obtain ⟨z271, rfl⟩ := bs_anI ahp269
   have E272 := lw_keep H fhp269 rfl rfl rfl rfl rfl hs
   obtain ⟨ew1, hC1, hX1⟩ := pC H (d_crosses hC hD _) xhp269 hX
   refine (show Ev _ 840 ([some (.retAddr 0), some (.ref 0), some (.ref 69), some (.ref 87), some (.int z), a5, a6], [.int z271], (m + 0, k + 0), hp269) _ from ?_)
   refine Ev.step (j := 841) (s' := ([some (.retAddr 0), some (.ref 0), some (.ref 69), some (.ref 87), some (.int z), a5, a6], [], (m + 0, k + 0), hp269)) rfl rfl ?_
   refine Ev.step (j := 842) (s' := ([some (.retAddr 0), some (.ref 0), some (.ref 69), some (.ref 87), some (.int z), a5, a6], [.ref 69], (m + 0, k + 0), hp269)) rfl rfl ?_
   refine Ev.step (j := 843) (s' := ([some (.retAddr 0), some (.ref 0), some (.ref 69), some (.ref 87), some (.int z), a5, a6], [.retAddr 0, .ref 69], (m + 0, k + 0), hp269)) rfl rfl ?_
   exact by
    refine Ev.step (j := 845) (s' := ([some (.retAddr 0), some (.ref 0), some (.ref 69), some (.ref 87), some (.int z), a5, a6], [.int z, .retAddr 0, .ref 69], (m + 0, k + 0), hp269)) rfl rfl ?_
    refine bs_lit (k := 1) rfl rfl fun z273 hz273 => ?_
    refine bs_add rfl (by omega) (by omega) fun z274 hz274 => ?_
    refine ls_sld rfl (by omega) (by omega) ?_
    refine (show Ev _ 848 ([some (.retAddr 0), some (.ref 0), some (.ref 69), some (.ref 87), some (.int z), a5, a6], [.int (xs z274.toNatClampNeg), .ref 69], (m + 0, k + 0), hp269) _ from ?_)
    refine bs_callx (K := kq_X11_crosses_3d45d6) [.ref 69, .int (xs z274.toNatClampNeg)] [] rfl (sf_cX ct_X11_crosses_3d45d6) Hhp269 rfl rfl rfl (bs_rcv (g := 11) Hhp269 (bs_R.uq Hhp269 (g := 11) rfl) (by decide) rfl) (ls_room (Nat.le_of_ble_eq_true rfl) (by omega) (by omega)) ?_ (sf_S_nil) fun r276 hp275 thp275 Hhp275 fhp275 ahp275 php275 xhp275 => ?_
    · intro q k h
      match q, h with
      | 0, h => cases h; exact bs_jR (bs_R.uq Hhp269 (g := 11) rfl)
      | 1, h => cases h; exact sf_j0
      | q + 2, h => cases h
    obtain ⟨z277, rfl⟩ := bs_anI ahp275
    have E278 := lw_keep Hhp269 fhp275 rfl rfl rfl rfl rfl E272
    rw [show z274 = z268 from Int32.toInt_inj.mp (by omega)] at xhp275
    obtain ⟨ew2, hX2, hC2⟩ := pX Hhp269 (e_crosses hX1 hD _) xhp275 hC1
    refine (show Ev _ 851 ([some (.retAddr 0), some (.ref 0), some (.ref 69), some (.ref 87), some (.int z), a5, a6], [.int z277], (m + 0 + 0, k + 0 + 0), hp275) _ from ?_)
    exact by
     refine Ev.step (j := 852) (s' := ([some (.retAddr 0), some (.ref 0), some (.ref 69), some (.ref 87), some (.int z), a5, a6], [], (m + 0 + 0, k + 0 + 0), hp275)) rfl rfl ?_
     refine Ev.step (j := 1440) (s' := ([some (.retAddr 0), some (.ref 0), some (.ref 69), some (.ref 87), some (.int z), a5, a6], [], (m + 0 + 0, k + 0 + 0), hp275)) rfl rfl ?_
     exact K _ _ _ _ _ _ Hhp275 ⟨E278, _, hD, hC2, hX2⟩ (by omega) (by omega)
set_option maxRecDepth 100000 in
set_option maxHeartbeats 4000000 in
theorem op_comes {xs : Nat → Int32} {n : Nat} {z : Int32} {a5 a6 : Option Value} {m k : Nat} {hp : ab_H} {t : Nat → Nat} {Q : ab_O → Prop} (H : sf_h t hp) (hs : lw_eq hp) (hz0 : 0 ≤ z.toInt) (hz1 : z.toInt + 6 ≤ n) (hn : n ≤ 3072) (hm : m + 21 ≤ 601024) (hk : k + 410 ≤ 7293034) (K : lw_K xs n z m k Q) : Ev (LT xs n) 855 ([some (.retAddr 0), some (.ref 0), some (.ref 69), some (.ref 87), some (.int z), a5, a6], [], (m, k), hp) Q := by
  obtain ⟨hs, D, hD, hC, hX⟩ := hs
  refine Ev.step (j := 856) (s' := ([some (.retAddr 0), some (.ref 0), some (.ref 69), some (.ref 87), some (.int z), a5, a6], [.ref 0], (m, k), hp)) rfl rfl ?_
  refine Ev.step (j := 857) (s' := ([some (.retAddr 0), some (.ref 0), some (.ref 69), some (.ref 87), some (.int z), a5, a6], [.retAddr 0, .ref 0], (m, k), hp)) rfl rfl ?_
  refine Ev.step (j := 859) (s' := ([some (.retAddr 0), some (.ref 0), some (.ref 69), some (.ref 87), some (.int z), a5, a6], [.int z, .retAddr 0, .ref 0], (m, k), hp)) rfl rfl ?_
  refine bs_lit (k := 1) rfl rfl fun z279 hz279 => ?_
  refine bs_add rfl (by omega) (by omega) fun z280 hz280 => ?_
  refine ls_sld rfl (by omega) (by omega) ?_
  refine (show Ev _ 862 ([some (.retAddr 0), some (.ref 0), some (.ref 69), some (.ref 87), some (.int z), a5, a6], [.int (xs z280.toNatClampNeg), .ref 0], (m, k), hp) _ from ?_)
  exact by
   refine Ev.step (j := 863) (s' := ([some (.retAddr 0), some (.ref 0), some (.ref 69), some (.ref 87), some (.int z), a5, a6], [.retAddr 0, .int (xs z280.toNatClampNeg), .ref 0], (m, k), hp)) rfl rfl ?_
   refine Ev.step (j := 865) (s' := ([some (.retAddr 0), some (.ref 0), some (.ref 69), some (.ref 87), some (.int z), a5, a6], [.int z, .retAddr 0, .int (xs z280.toNatClampNeg), .ref 0], (m, k), hp)) rfl rfl ?_
   refine bs_lit (k := 2) rfl rfl fun z281 hz281 => ?_
   refine bs_add rfl (by omega) (by omega) fun z282 hz282 => ?_
   refine ls_sld rfl (by omega) (by omega) ?_
   refine (show Ev _ 868 ([some (.retAddr 0), some (.ref 0), some (.ref 69), some (.ref 87), some (.int z), a5, a6], [.int (xs z282.toNatClampNeg), .int (xs z280.toNatClampNeg), .ref 0], (m, k), hp) _ from ?_)
   refine bs_callx (K := kq_X10_comes_57b5ea) [.ref 0, .int (xs z280.toNatClampNeg), .int (xs z282.toNatClampNeg)] [] rfl (sf_cX ct_X10_comes_57b5ea) H rfl rfl rfl (bs_rcv (g := 10) H (bs_R.uq H (g := 10) rfl) (by decide) rfl) (ls_room (Nat.le_of_ble_eq_true rfl) (by omega) (by omega)) ?_ (sf_S_nil) fun r284 hp283 thp283 Hhp283 fhp283 ahp283 php283 xhp283 => ?_
   · intro q k h
     match q, h with
     | 0, h => cases h; exact bs_jR (bs_R.uq H (g := 10) rfl)
     | 1, h => cases h; exact sf_j0
     | 2, h => cases h; exact sf_j0
     | q + 3, h => cases h
   obtain ⟨z285, rfl⟩ := bs_anI ahp283
   have E286 := lw_keep H fhp283 rfl rfl rfl rfl rfl hs
   obtain ⟨ew1, hC1, hX1⟩ := pC H (d_comes hC hD _ _) xhp283 hX
   refine (show Ev _ 871 ([some (.retAddr 0), some (.ref 0), some (.ref 69), some (.ref 87), some (.int z), a5, a6], [.int z285], (m + 0, k + 0), hp283) _ from ?_)
   exact by
    refine Ev.step (j := 872) (s' := ([some (.retAddr 0), some (.ref 0), some (.ref 69), some (.ref 87), some (.int z), a5, a6], [], (m + 0, k + 0), hp283)) rfl rfl ?_
    refine Ev.step (j := 873) (s' := ([some (.retAddr 0), some (.ref 0), some (.ref 69), some (.ref 87), some (.int z), a5, a6], [.ref 69], (m + 0, k + 0), hp283)) rfl rfl ?_
    refine Ev.step (j := 874) (s' := ([some (.retAddr 0), some (.ref 0), some (.ref 69), some (.ref 87), some (.int z), a5, a6], [.retAddr 0, .ref 69], (m + 0, k + 0), hp283)) rfl rfl ?_
    refine Ev.step (j := 876) (s' := ([some (.retAddr 0), some (.ref 0), some (.ref 69), some (.ref 87), some (.int z), a5, a6], [.int z, .retAddr 0, .ref 69], (m + 0, k + 0), hp283)) rfl rfl ?_
    refine bs_lit (k := 1) rfl rfl fun z287 hz287 => ?_
    refine bs_add rfl (by omega) (by omega) fun z288 hz288 => ?_
    refine ls_sld rfl (by omega) (by omega) ?_
    refine (show Ev _ 879 ([some (.retAddr 0), some (.ref 0), some (.ref 69), some (.ref 87), some (.int z), a5, a6], [.int (xs z288.toNatClampNeg), .ref 69], (m + 0, k + 0), hp283) _ from ?_)
    exact by
     refine Ev.step (j := 880) (s' := ([some (.retAddr 0), some (.ref 0), some (.ref 69), some (.ref 87), some (.int z), a5, a6], [.retAddr 0, .int (xs z288.toNatClampNeg), .ref 69], (m + 0, k + 0), hp283)) rfl rfl ?_
     refine Ev.step (j := 882) (s' := ([some (.retAddr 0), some (.ref 0), some (.ref 69), some (.ref 87), some (.int z), a5, a6], [.int z, .retAddr 0, .int (xs z288.toNatClampNeg), .ref 69], (m + 0, k + 0), hp283)) rfl rfl ?_
     refine bs_lit (k := 2) rfl rfl fun z289 hz289 => ?_
     refine bs_add rfl (by omega) (by omega) fun z290 hz290 => ?_
     refine ls_sld rfl (by omega) (by omega) ?_
     refine (show Ev _ 885 ([some (.retAddr 0), some (.ref 0), some (.ref 69), some (.ref 87), some (.int z), a5, a6], [.int (xs z290.toNatClampNeg), .int (xs z288.toNatClampNeg), .ref 69], (m + 0, k + 0), hp283) _ from ?_)
     refine bs_callx (K := kq_X11_comes_334faa) [.ref 69, .int (xs z288.toNatClampNeg), .int (xs z290.toNatClampNeg)] [] rfl (sf_cX ct_X11_comes_334faa) Hhp283 rfl rfl rfl (bs_rcv (g := 11) Hhp283 (bs_R.uq Hhp283 (g := 11) rfl) (by decide) rfl) (ls_room (Nat.le_of_ble_eq_true rfl) (by omega) (by omega)) ?_ (sf_S_nil) fun r292 hp291 thp291 Hhp291 fhp291 ahp291 php291 xhp291 => ?_
     · intro q k h
       match q, h with
       | 0, h => cases h; exact bs_jR (bs_R.uq Hhp283 (g := 11) rfl)
       | 1, h => cases h; exact sf_j0
       | 2, h => cases h; exact sf_j0
       | q + 3, h => cases h
     obtain ⟨z293, rfl⟩ := bs_anI ahp291
     have E294 := lw_keep Hhp283 fhp291 rfl rfl rfl rfl rfl E286
     rw [show z288 = z280 from Int32.toInt_inj.mp (by omega)] at xhp291
     rw [show z290 = z282 from Int32.toInt_inj.mp (by omega)] at xhp291
     obtain ⟨ew2, hX2, hC2⟩ := pX Hhp283 (e_comes hX1 hD _ _) xhp291 hC1
     refine (show Ev _ 888 ([some (.retAddr 0), some (.ref 0), some (.ref 69), some (.ref 87), some (.int z), a5, a6], [.int z293], (m + 0 + 0, k + 0 + 0), hp291) _ from ?_)
     exact by
      refine Ev.step (j := 889) (s' := ([some (.retAddr 0), some (.ref 0), some (.ref 69), some (.ref 87), some (.int z), a5, a6], [], (m + 0 + 0, k + 0 + 0), hp291)) rfl rfl ?_
      refine Ev.step (j := 1440) (s' := ([some (.retAddr 0), some (.ref 0), some (.ref 69), some (.ref 87), some (.int z), a5, a6], [], (m + 0 + 0, k + 0 + 0), hp291)) rfl rfl ?_
      exact K _ _ _ _ _ _ Hhp291 ⟨E294, _, hD, hC2, hX2⟩ (by omega) (by omega)
set_option maxRecDepth 100000 in
set_option maxHeartbeats 4000000 in
theorem op_without {xs : Nat → Int32} {n : Nat} {z : Int32} {a5 a6 : Option Value} {m k : Nat} {hp : ab_H} {t : Nat → Nat} {Q : ab_O → Prop} (H : sf_h t hp) (hs : lw_eq hp) (hz0 : 0 ≤ z.toInt) (hz1 : z.toInt + 6 ≤ n) (hn : n ≤ 3072) (hm : m + 21 ≤ 601024) (hk : k + 410 ≤ 7293034) (K : lw_K xs n z m k Q) : Ev (LT xs n) 892 ([some (.retAddr 0), some (.ref 0), some (.ref 69), some (.ref 87), some (.int z), a5, a6], [], (m, k), hp) Q := by
  obtain ⟨hs, D, hD, hC, hX⟩ := hs
  refine Ev.step (j := 893) (s' := ([some (.retAddr 0), some (.ref 0), some (.ref 69), some (.ref 87), some (.int z), a5, a6], [.ref 0], (m, k), hp)) rfl rfl ?_
  refine Ev.step (j := 894) (s' := ([some (.retAddr 0), some (.ref 0), some (.ref 69), some (.ref 87), some (.int z), a5, a6], [.retAddr 0, .ref 0], (m, k), hp)) rfl rfl ?_
  refine Ev.step (j := 896) (s' := ([some (.retAddr 0), some (.ref 0), some (.ref 69), some (.ref 87), some (.int z), a5, a6], [.int z, .retAddr 0, .ref 0], (m, k), hp)) rfl rfl ?_
  refine bs_lit (k := 1) rfl rfl fun z295 hz295 => ?_
  refine bs_add rfl (by omega) (by omega) fun z296 hz296 => ?_
  refine ls_sld rfl (by omega) (by omega) ?_
  refine (show Ev _ 899 ([some (.retAddr 0), some (.ref 0), some (.ref 69), some (.ref 87), some (.int z), a5, a6], [.int (xs z296.toNatClampNeg), .ref 0], (m, k), hp) _ from ?_)
  exact by
   refine Ev.step (j := 900) (s' := ([some (.retAddr 0), some (.ref 0), some (.ref 69), some (.ref 87), some (.int z), a5, a6], [.retAddr 0, .int (xs z296.toNatClampNeg), .ref 0], (m, k), hp)) rfl rfl ?_
   refine Ev.step (j := 902) (s' := ([some (.retAddr 0), some (.ref 0), some (.ref 69), some (.ref 87), some (.int z), a5, a6], [.int z, .retAddr 0, .int (xs z296.toNatClampNeg), .ref 0], (m, k), hp)) rfl rfl ?_
   refine bs_lit (k := 2) rfl rfl fun z297 hz297 => ?_
   refine bs_add rfl (by omega) (by omega) fun z298 hz298 => ?_
   refine ls_sld rfl (by omega) (by omega) ?_
   refine (show Ev _ 905 ([some (.retAddr 0), some (.ref 0), some (.ref 69), some (.ref 87), some (.int z), a5, a6], [.int (xs z298.toNatClampNeg), .int (xs z296.toNatClampNeg), .ref 0], (m, k), hp) _ from ?_)
   refine Ev.step (j := 906) (s' := ([some (.retAddr 0), some (.ref 0), some (.ref 69), some (.ref 87), some (.int z), a5, a6], [.retAddr 0, .int (xs z298.toNatClampNeg), .int (xs z296.toNatClampNeg), .ref 0], (m, k), hp)) rfl rfl ?_
   refine Ev.step (j := 908) (s' := ([some (.retAddr 0), some (.ref 0), some (.ref 69), some (.ref 87), some (.int z), a5, a6], [.int z, .retAddr 0, .int (xs z298.toNatClampNeg), .int (xs z296.toNatClampNeg), .ref 0], (m, k), hp)) rfl rfl ?_
   exact by
    refine bs_lit (k := 3) rfl rfl fun z299 hz299 => ?_
    refine bs_add rfl (by omega) (by omega) fun z300 hz300 => ?_
    refine ls_sld rfl (by omega) (by omega) ?_
    refine (show Ev _ 911 ([some (.retAddr 0), some (.ref 0), some (.ref 69), some (.ref 87), some (.int z), a5, a6], [.int (xs z300.toNatClampNeg), .int (xs z298.toNatClampNeg), .int (xs z296.toNatClampNeg), .ref 0], (m, k), hp) _ from ?_)
    refine Ev.step (j := 912) (s' := ([some (.retAddr 0), some (.ref 0), some (.ref 69), some (.ref 87), some (.int z), a5, a6], [.retAddr 0, .int (xs z300.toNatClampNeg), .int (xs z298.toNatClampNeg), .int (xs z296.toNatClampNeg), .ref 0], (m, k), hp)) rfl rfl ?_
    refine Ev.step (j := 914) (s' := ([some (.retAddr 0), some (.ref 0), some (.ref 69), some (.ref 87), some (.int z), a5, a6], [.int z, .retAddr 0, .int (xs z300.toNatClampNeg), .int (xs z298.toNatClampNeg), .int (xs z296.toNatClampNeg), .ref 0], (m, k), hp)) rfl rfl ?_
    refine bs_lit (k := 4) rfl rfl fun z301 hz301 => ?_
    refine bs_add rfl (by omega) (by omega) fun z302 hz302 => ?_
    exact by
     refine ls_sld rfl (by omega) (by omega) ?_
     refine (show Ev _ 917 ([some (.retAddr 0), some (.ref 0), some (.ref 69), some (.ref 87), some (.int z), a5, a6], [.int (xs z302.toNatClampNeg), .int (xs z300.toNatClampNeg), .int (xs z298.toNatClampNeg), .int (xs z296.toNatClampNeg), .ref 0], (m, k), hp) _ from ?_)
     refine bs_callx (K := kq_X10_without_7e309e) [.ref 0, .int (xs z296.toNatClampNeg), .int (xs z298.toNatClampNeg), .int (xs z300.toNatClampNeg), .int (xs z302.toNatClampNeg)] [] rfl (sf_cX ct_X10_without_7e309e) H rfl rfl rfl (bs_rcv (g := 10) H (bs_R.uq H (g := 10) rfl) (by decide) rfl) (ls_room (Nat.le_of_ble_eq_true rfl) (by omega) (by omega)) ?_ (sf_S_nil) fun r304 hp303 thp303 Hhp303 fhp303 ahp303 php303 xhp303 => ?_
     · intro q k h
       match q, h with
       | 0, h => cases h; exact bs_jR (bs_R.uq H (g := 10) rfl)
       | 1, h => cases h; exact sf_j0
       | 2, h => cases h; exact sf_j0
       | 3, h => cases h; exact sf_j0
       | 4, h => cases h; exact sf_j0
       | q + 5, h => cases h
     obtain ⟨z305, rfl⟩ := bs_anI ahp303
     have E306 := lw_keep H fhp303 rfl rfl rfl rfl rfl hs
     obtain ⟨ew1, hC1, hX1⟩ := pC H (d_without hC hD _ _ _ _) xhp303 hX
     refine (show Ev _ 920 ([some (.retAddr 0), some (.ref 0), some (.ref 69), some (.ref 87), some (.int z), a5, a6], [.int z305], (m + 0, k + 0), hp303) _ from ?_)
     refine Ev.step (j := 921) (s' := ([some (.retAddr 0), some (.ref 0), some (.ref 69), some (.ref 87), some (.int z), a5, a6], [], (m + 0, k + 0), hp303)) rfl rfl ?_
     exact by
      refine Ev.step (j := 922) (s' := ([some (.retAddr 0), some (.ref 0), some (.ref 69), some (.ref 87), some (.int z), a5, a6], [.ref 69], (m + 0, k + 0), hp303)) rfl rfl ?_
      refine Ev.step (j := 923) (s' := ([some (.retAddr 0), some (.ref 0), some (.ref 69), some (.ref 87), some (.int z), a5, a6], [.retAddr 0, .ref 69], (m + 0, k + 0), hp303)) rfl rfl ?_
      refine Ev.step (j := 925) (s' := ([some (.retAddr 0), some (.ref 0), some (.ref 69), some (.ref 87), some (.int z), a5, a6], [.int z, .retAddr 0, .ref 69], (m + 0, k + 0), hp303)) rfl rfl ?_
      refine bs_lit (k := 1) rfl rfl fun z307 hz307 => ?_
      refine bs_add rfl (by omega) (by omega) fun z308 hz308 => ?_
      refine ls_sld rfl (by omega) (by omega) ?_
      refine (show Ev _ 928 ([some (.retAddr 0), some (.ref 0), some (.ref 69), some (.ref 87), some (.int z), a5, a6], [.int (xs z308.toNatClampNeg), .ref 69], (m + 0, k + 0), hp303) _ from ?_)
      refine Ev.step (j := 929) (s' := ([some (.retAddr 0), some (.ref 0), some (.ref 69), some (.ref 87), some (.int z), a5, a6], [.retAddr 0, .int (xs z308.toNatClampNeg), .ref 69], (m + 0, k + 0), hp303)) rfl rfl ?_
      exact by
       refine Ev.step (j := 931) (s' := ([some (.retAddr 0), some (.ref 0), some (.ref 69), some (.ref 87), some (.int z), a5, a6], [.int z, .retAddr 0, .int (xs z308.toNatClampNeg), .ref 69], (m + 0, k + 0), hp303)) rfl rfl ?_
       refine bs_lit (k := 2) rfl rfl fun z309 hz309 => ?_
       refine bs_add rfl (by omega) (by omega) fun z310 hz310 => ?_
       refine ls_sld rfl (by omega) (by omega) ?_
       refine (show Ev _ 934 ([some (.retAddr 0), some (.ref 0), some (.ref 69), some (.ref 87), some (.int z), a5, a6], [.int (xs z310.toNatClampNeg), .int (xs z308.toNatClampNeg), .ref 69], (m + 0, k + 0), hp303) _ from ?_)
       refine Ev.step (j := 935) (s' := ([some (.retAddr 0), some (.ref 0), some (.ref 69), some (.ref 87), some (.int z), a5, a6], [.retAddr 0, .int (xs z310.toNatClampNeg), .int (xs z308.toNatClampNeg), .ref 69], (m + 0, k + 0), hp303)) rfl rfl ?_
       refine Ev.step (j := 937) (s' := ([some (.retAddr 0), some (.ref 0), some (.ref 69), some (.ref 87), some (.int z), a5, a6], [.int z, .retAddr 0, .int (xs z310.toNatClampNeg), .int (xs z308.toNatClampNeg), .ref 69], (m + 0, k + 0), hp303)) rfl rfl ?_
       refine bs_lit (k := 3) rfl rfl fun z311 hz311 => ?_
       exact by
        refine bs_add rfl (by omega) (by omega) fun z312 hz312 => ?_
        refine ls_sld rfl (by omega) (by omega) ?_
        refine (show Ev _ 940 ([some (.retAddr 0), some (.ref 0), some (.ref 69), some (.ref 87), some (.int z), a5, a6], [.int (xs z312.toNatClampNeg), .int (xs z310.toNatClampNeg), .int (xs z308.toNatClampNeg), .ref 69], (m + 0, k + 0), hp303) _ from ?_)
        refine Ev.step (j := 941) (s' := ([some (.retAddr 0), some (.ref 0), some (.ref 69), some (.ref 87), some (.int z), a5, a6], [.retAddr 0, .int (xs z312.toNatClampNeg), .int (xs z310.toNatClampNeg), .int (xs z308.toNatClampNeg), .ref 69], (m + 0, k + 0), hp303)) rfl rfl ?_
        refine Ev.step (j := 943) (s' := ([some (.retAddr 0), some (.ref 0), some (.ref 69), some (.ref 87), some (.int z), a5, a6], [.int z, .retAddr 0, .int (xs z312.toNatClampNeg), .int (xs z310.toNatClampNeg), .int (xs z308.toNatClampNeg), .ref 69], (m + 0, k + 0), hp303)) rfl rfl ?_
        refine bs_lit (k := 4) rfl rfl fun z313 hz313 => ?_
        refine bs_add rfl (by omega) (by omega) fun z314 hz314 => ?_
        refine ls_sld rfl (by omega) (by omega) ?_
        exact by
         refine (show Ev _ 946 ([some (.retAddr 0), some (.ref 0), some (.ref 69), some (.ref 87), some (.int z), a5, a6], [.int (xs z314.toNatClampNeg), .int (xs z312.toNatClampNeg), .int (xs z310.toNatClampNeg), .int (xs z308.toNatClampNeg), .ref 69], (m + 0, k + 0), hp303) _ from ?_)
         refine bs_callx (K := kq_X11_without_h) [.ref 69, .int (xs z308.toNatClampNeg), .int (xs z310.toNatClampNeg), .int (xs z312.toNatClampNeg), .int (xs z314.toNatClampNeg)] [] rfl (sf_cX ct_X11_without_h) Hhp303 rfl rfl rfl (bs_rcv (g := 11) Hhp303 (bs_R.uq Hhp303 (g := 11) rfl) (by decide) rfl) (ls_room (Nat.le_of_ble_eq_true rfl) (by omega) (by omega)) ?_ (sf_S_nil) fun r316 hp315 thp315 Hhp315 fhp315 ahp315 php315 xhp315 => ?_
         · intro q k h
           match q, h with
           | 0, h => cases h; exact bs_jR (bs_R.uq Hhp303 (g := 11) rfl)
           | 1, h => cases h; exact sf_j0
           | 2, h => cases h; exact sf_j0
           | 3, h => cases h; exact sf_j0
           | 4, h => cases h; exact sf_j0
           | q + 5, h => cases h
         obtain ⟨z317, rfl⟩ := bs_anI ahp315
         have E318 := lw_keep Hhp303 fhp315 rfl rfl rfl rfl rfl E306
         rw [show z308 = z296 from Int32.toInt_inj.mp (by omega)] at xhp315
         rw [show z310 = z298 from Int32.toInt_inj.mp (by omega)] at xhp315
         rw [show z312 = z300 from Int32.toInt_inj.mp (by omega)] at xhp315
         rw [show z314 = z302 from Int32.toInt_inj.mp (by omega)] at xhp315
         obtain ⟨ew2, hX2, hC2⟩ := pX Hhp303 (e_without hX1 hD _ _ _ _) xhp315 hC1
         refine (show Ev _ 949 ([some (.retAddr 0), some (.ref 0), some (.ref 69), some (.ref 87), some (.int z), a5, a6], [.int z317], (m + 0 + 0, k + 0 + 0), hp315) _ from ?_)
         refine Ev.step (j := 950) (s' := ([some (.retAddr 0), some (.ref 0), some (.ref 69), some (.ref 87), some (.int z), a5, a6], [], (m + 0 + 0, k + 0 + 0), hp315)) rfl rfl ?_
         refine Ev.step (j := 1440) (s' := ([some (.retAddr 0), some (.ref 0), some (.ref 69), some (.ref 87), some (.int z), a5, a6], [], (m + 0 + 0, k + 0 + 0), hp315)) rfl rfl ?_
         exact K _ _ _ _ _ _ Hhp315 ⟨E318, _, hD, hC2, hX2⟩ (by omega) (by omega)
set_option maxRecDepth 100000 in
set_option maxHeartbeats 4000000 in
theorem op_meet {xs : Nat → Int32} {n : Nat} {z : Int32} {a5 a6 : Option Value} {m k : Nat} {hp : ab_H} {t : Nat → Nat} {Q : ab_O → Prop} (H : sf_h t hp) (hs : lw_eq hp) (hz0 : 0 ≤ z.toInt) (hz1 : z.toInt + 6 ≤ n) (hn : n ≤ 3072) (hm : m + 21 ≤ 601024) (hk : k + 410 ≤ 7293034) (K : lw_K xs n z m k Q) : Ev (LT xs n) 953 ([some (.retAddr 0), some (.ref 0), some (.ref 69), some (.ref 87), some (.int z), a5, a6], [], (m, k), hp) Q := by
  obtain ⟨hs, D, hD, hC, hX⟩ := hs
  refine Ev.step (j := 954) (s' := ([some (.retAddr 0), some (.ref 0), some (.ref 69), some (.ref 87), some (.int z), a5, a6], [.ref 0], (m, k), hp)) rfl rfl ?_
  refine Ev.step (j := 955) (s' := ([some (.retAddr 0), some (.ref 0), some (.ref 69), some (.ref 87), some (.int z), a5, a6], [.retAddr 0, .ref 0], (m, k), hp)) rfl rfl ?_
  refine Ev.step (j := 957) (s' := ([some (.retAddr 0), some (.ref 0), some (.ref 69), some (.ref 87), some (.int z), a5, a6], [.int z, .retAddr 0, .ref 0], (m, k), hp)) rfl rfl ?_
  refine bs_lit (k := 1) rfl rfl fun z319 hz319 => ?_
  refine bs_add rfl (by omega) (by omega) fun z320 hz320 => ?_
  refine ls_sld rfl (by omega) (by omega) ?_
  refine (show Ev _ 960 ([some (.retAddr 0), some (.ref 0), some (.ref 69), some (.ref 87), some (.int z), a5, a6], [.int (xs z320.toNatClampNeg), .ref 0], (m, k), hp) _ from ?_)
  exact by
   refine Ev.step (j := 961) (s' := ([some (.retAddr 0), some (.ref 0), some (.ref 69), some (.ref 87), some (.int z), a5, a6], [.retAddr 0, .int (xs z320.toNatClampNeg), .ref 0], (m, k), hp)) rfl rfl ?_
   refine Ev.step (j := 963) (s' := ([some (.retAddr 0), some (.ref 0), some (.ref 69), some (.ref 87), some (.int z), a5, a6], [.int z, .retAddr 0, .int (xs z320.toNatClampNeg), .ref 0], (m, k), hp)) rfl rfl ?_
   refine bs_lit (k := 2) rfl rfl fun z321 hz321 => ?_
   refine bs_add rfl (by omega) (by omega) fun z322 hz322 => ?_
   refine ls_sld rfl (by omega) (by omega) ?_
   refine (show Ev _ 966 ([some (.retAddr 0), some (.ref 0), some (.ref 69), some (.ref 87), some (.int z), a5, a6], [.int (xs z322.toNatClampNeg), .int (xs z320.toNatClampNeg), .ref 0], (m, k), hp) _ from ?_)
   refine bs_callx (K := kq_X10_meet_57b5ea) [.ref 0, .int (xs z320.toNatClampNeg), .int (xs z322.toNatClampNeg)] [] rfl (sf_cX ct_X10_meet_57b5ea) H rfl rfl rfl (bs_rcv (g := 10) H (bs_R.uq H (g := 10) rfl) (by decide) rfl) (ls_room (Nat.le_of_ble_eq_true rfl) (by omega) (by omega)) ?_ (sf_S_nil) fun r324 hp323 thp323 Hhp323 fhp323 ahp323 php323 xhp323 => ?_
   · intro q k h
     match q, h with
     | 0, h => cases h; exact bs_jR (bs_R.uq H (g := 10) rfl)
     | 1, h => cases h; exact sf_j0
     | 2, h => cases h; exact sf_j0
     | q + 3, h => cases h
   obtain ⟨z325, rfl⟩ := bs_anI ahp323
   have E326 := lw_keep H fhp323 rfl rfl rfl rfl rfl hs
   obtain ⟨ew1, hC1, hX1⟩ := pC H (d_meet hC hD _ _) xhp323 hX
   refine (show Ev _ 969 ([some (.retAddr 0), some (.ref 0), some (.ref 69), some (.ref 87), some (.int z), a5, a6], [.int z325], (m + 0, k + 0), hp323) _ from ?_)
   exact by
    refine Ev.step (j := 970) (s' := ([some (.retAddr 0), some (.ref 0), some (.ref 69), some (.ref 87), some (.int z), a5, a6], [], (m + 0, k + 0), hp323)) rfl rfl ?_
    refine Ev.step (j := 971) (s' := ([some (.retAddr 0), some (.ref 0), some (.ref 69), some (.ref 87), some (.int z), a5, a6], [.ref 69], (m + 0, k + 0), hp323)) rfl rfl ?_
    refine Ev.step (j := 972) (s' := ([some (.retAddr 0), some (.ref 0), some (.ref 69), some (.ref 87), some (.int z), a5, a6], [.retAddr 0, .ref 69], (m + 0, k + 0), hp323)) rfl rfl ?_
    refine Ev.step (j := 974) (s' := ([some (.retAddr 0), some (.ref 0), some (.ref 69), some (.ref 87), some (.int z), a5, a6], [.int z, .retAddr 0, .ref 69], (m + 0, k + 0), hp323)) rfl rfl ?_
    refine bs_lit (k := 1) rfl rfl fun z327 hz327 => ?_
    refine bs_add rfl (by omega) (by omega) fun z328 hz328 => ?_
    refine ls_sld rfl (by omega) (by omega) ?_
    refine (show Ev _ 977 ([some (.retAddr 0), some (.ref 0), some (.ref 69), some (.ref 87), some (.int z), a5, a6], [.int (xs z328.toNatClampNeg), .ref 69], (m + 0, k + 0), hp323) _ from ?_)
    exact by
     refine Ev.step (j := 978) (s' := ([some (.retAddr 0), some (.ref 0), some (.ref 69), some (.ref 87), some (.int z), a5, a6], [.retAddr 0, .int (xs z328.toNatClampNeg), .ref 69], (m + 0, k + 0), hp323)) rfl rfl ?_
     refine Ev.step (j := 980) (s' := ([some (.retAddr 0), some (.ref 0), some (.ref 69), some (.ref 87), some (.int z), a5, a6], [.int z, .retAddr 0, .int (xs z328.toNatClampNeg), .ref 69], (m + 0, k + 0), hp323)) rfl rfl ?_
     refine bs_lit (k := 2) rfl rfl fun z329 hz329 => ?_
     refine bs_add rfl (by omega) (by omega) fun z330 hz330 => ?_
     refine ls_sld rfl (by omega) (by omega) ?_
     refine (show Ev _ 983 ([some (.retAddr 0), some (.ref 0), some (.ref 69), some (.ref 87), some (.int z), a5, a6], [.int (xs z330.toNatClampNeg), .int (xs z328.toNatClampNeg), .ref 69], (m + 0, k + 0), hp323) _ from ?_)
     refine bs_callx (K := kq_X11_meet_h) [.ref 69, .int (xs z328.toNatClampNeg), .int (xs z330.toNatClampNeg)] [] rfl (sf_cX ct_X11_meet_h) Hhp323 rfl rfl rfl (bs_rcv (g := 11) Hhp323 (bs_R.uq Hhp323 (g := 11) rfl) (by decide) rfl) (ls_room (Nat.le_of_ble_eq_true rfl) (by omega) (by omega)) ?_ (sf_S_nil) fun r332 hp331 thp331 Hhp331 fhp331 ahp331 php331 xhp331 => ?_
     · intro q k h
       match q, h with
       | 0, h => cases h; exact bs_jR (bs_R.uq Hhp323 (g := 11) rfl)
       | 1, h => cases h; exact sf_j0
       | 2, h => cases h; exact sf_j0
       | q + 3, h => cases h
     obtain ⟨z333, rfl⟩ := bs_anI ahp331
     have E334 := lw_keep Hhp323 fhp331 rfl rfl rfl rfl rfl E326
     rw [show z328 = z320 from Int32.toInt_inj.mp (by omega)] at xhp331
     rw [show z330 = z322 from Int32.toInt_inj.mp (by omega)] at xhp331
     obtain ⟨ew2, hX2, hC2⟩ := pX Hhp323 (e_meet hX1 hD _ _) xhp331 hC1
     refine (show Ev _ 986 ([some (.retAddr 0), some (.ref 0), some (.ref 69), some (.ref 87), some (.int z), a5, a6], [.int z333], (m + 0 + 0, k + 0 + 0), hp331) _ from ?_)
     exact by
      refine Ev.step (j := 987) (s' := ([some (.retAddr 0), some (.ref 0), some (.ref 69), some (.ref 87), some (.int z), a5, a6], [], (m + 0 + 0, k + 0 + 0), hp331)) rfl rfl ?_
      refine Ev.step (j := 1440) (s' := ([some (.retAddr 0), some (.ref 0), some (.ref 69), some (.ref 87), some (.int z), a5, a6], [], (m + 0 + 0, k + 0 + 0), hp331)) rfl rfl ?_
      exact K _ _ _ _ _ _ Hhp331 ⟨E334, _, hD, hC2, hX2⟩ (by omega) (by omega)
set_option maxRecDepth 100000 in
set_option maxHeartbeats 4000000 in
theorem op_loads {xs : Nat → Int32} {n : Nat} {z : Int32} {a5 a6 : Option Value} {m k : Nat} {hp : ab_H} {t : Nat → Nat} {Q : ab_O → Prop} (H : sf_h t hp) (hs : lw_eq hp) (hz0 : 0 ≤ z.toInt) (hz1 : z.toInt + 6 ≤ n) (hn : n ≤ 3072) (hm : m + 21 ≤ 601024) (hk : k + 410 ≤ 7293034) (K : lw_K xs n z m k Q) : Ev (LT xs n) 990 ([some (.retAddr 0), some (.ref 0), some (.ref 69), some (.ref 87), some (.int z), a5, a6], [], (m, k), hp) Q := by
  obtain ⟨hs, D, hD, hC, hX⟩ := hs
  refine Ev.step (j := 991) (s' := ([some (.retAddr 0), some (.ref 0), some (.ref 69), some (.ref 87), some (.int z), a5, a6], [.ref 0], (m, k), hp)) rfl rfl ?_
  refine Ev.step (j := 992) (s' := ([some (.retAddr 0), some (.ref 0), some (.ref 69), some (.ref 87), some (.int z), a5, a6], [.retAddr 0, .ref 0], (m, k), hp)) rfl rfl ?_
  refine Ev.step (j := 994) (s' := ([some (.retAddr 0), some (.ref 0), some (.ref 69), some (.ref 87), some (.int z), a5, a6], [.int z, .retAddr 0, .ref 0], (m, k), hp)) rfl rfl ?_
  refine bs_lit (k := 1) rfl rfl fun z335 hz335 => ?_
  refine bs_add rfl (by omega) (by omega) fun z336 hz336 => ?_
  refine ls_sld rfl (by omega) (by omega) ?_
  refine (show Ev _ 997 ([some (.retAddr 0), some (.ref 0), some (.ref 69), some (.ref 87), some (.int z), a5, a6], [.int (xs z336.toNatClampNeg), .ref 0], (m, k), hp) _ from ?_)
  exact by
   refine bs_callx (K := kq_X10_loads_0df2a5) [.ref 0, .int (xs z336.toNatClampNeg)] [] rfl (sf_cX ct_X10_loads_0df2a5) H rfl rfl rfl (bs_rcv (g := 10) H (bs_R.uq H (g := 10) rfl) (by decide) rfl) (ls_room (Nat.le_of_ble_eq_true rfl) (by omega) (by omega)) ?_ (sf_S_nil) fun r338 hp337 thp337 Hhp337 fhp337 ahp337 php337 xhp337 => ?_
   · intro q k h
     match q, h with
     | 0, h => cases h; exact bs_jR (bs_R.uq H (g := 10) rfl)
     | 1, h => cases h; exact sf_j0
     | q + 2, h => cases h
   obtain ⟨z339, rfl⟩ := bs_anI ahp337
   have E340 := lw_keep H fhp337 rfl rfl rfl rfl rfl hs
   obtain ⟨ew1, hC1, hX1⟩ := pC H (d_loads hC hD _) xhp337 hX
   refine (show Ev _ 1000 ([some (.retAddr 0), some (.ref 0), some (.ref 69), some (.ref 87), some (.int z), a5, a6], [.int z339], (m + 0, k + 0), hp337) _ from ?_)
   refine Ev.step (j := 1001) (s' := ([some (.retAddr 0), some (.ref 0), some (.ref 69), some (.ref 87), some (.int z), a5, a6], [], (m + 0, k + 0), hp337)) rfl rfl ?_
   refine Ev.step (j := 1002) (s' := ([some (.retAddr 0), some (.ref 0), some (.ref 69), some (.ref 87), some (.int z), a5, a6], [.ref 69], (m + 0, k + 0), hp337)) rfl rfl ?_
   refine Ev.step (j := 1003) (s' := ([some (.retAddr 0), some (.ref 0), some (.ref 69), some (.ref 87), some (.int z), a5, a6], [.retAddr 0, .ref 69], (m + 0, k + 0), hp337)) rfl rfl ?_
   exact by
    refine Ev.step (j := 1005) (s' := ([some (.retAddr 0), some (.ref 0), some (.ref 69), some (.ref 87), some (.int z), a5, a6], [.int z, .retAddr 0, .ref 69], (m + 0, k + 0), hp337)) rfl rfl ?_
    refine bs_lit (k := 1) rfl rfl fun z341 hz341 => ?_
    refine bs_add rfl (by omega) (by omega) fun z342 hz342 => ?_
    refine ls_sld rfl (by omega) (by omega) ?_
    refine (show Ev _ 1008 ([some (.retAddr 0), some (.ref 0), some (.ref 69), some (.ref 87), some (.int z), a5, a6], [.int (xs z342.toNatClampNeg), .ref 69], (m + 0, k + 0), hp337) _ from ?_)
    refine bs_callx (K := kq_X11_loads_3d45d6) [.ref 69, .int (xs z342.toNatClampNeg)] [] rfl (sf_cX ct_X11_loads_3d45d6) Hhp337 rfl rfl rfl (bs_rcv (g := 11) Hhp337 (bs_R.uq Hhp337 (g := 11) rfl) (by decide) rfl) (ls_room (Nat.le_of_ble_eq_true rfl) (by omega) (by omega)) ?_ (sf_S_nil) fun r344 hp343 thp343 Hhp343 fhp343 ahp343 php343 xhp343 => ?_
    · intro q k h
      match q, h with
      | 0, h => cases h; exact bs_jR (bs_R.uq Hhp337 (g := 11) rfl)
      | 1, h => cases h; exact sf_j0
      | q + 2, h => cases h
    obtain ⟨z345, rfl⟩ := bs_anI ahp343
    have E346 := lw_keep Hhp337 fhp343 rfl rfl rfl rfl rfl E340
    rw [show z342 = z336 from Int32.toInt_inj.mp (by omega)] at xhp343
    obtain ⟨ew2, hX2, hC2⟩ := pX Hhp337 (e_loads hX1 hD _) xhp343 hC1
    refine (show Ev _ 1011 ([some (.retAddr 0), some (.ref 0), some (.ref 69), some (.ref 87), some (.int z), a5, a6], [.int z345], (m + 0 + 0, k + 0 + 0), hp343) _ from ?_)
    exact by
     refine Ev.step (j := 1012) (s' := ([some (.retAddr 0), some (.ref 0), some (.ref 69), some (.ref 87), some (.int z), a5, a6], [], (m + 0 + 0, k + 0 + 0), hp343)) rfl rfl ?_
     refine Ev.step (j := 1440) (s' := ([some (.retAddr 0), some (.ref 0), some (.ref 69), some (.ref 87), some (.int z), a5, a6], [], (m + 0 + 0, k + 0 + 0), hp343)) rfl rfl ?_
     exact K _ _ _ _ _ _ Hhp343 ⟨E346, _, hD, hC2, hX2⟩ (by omega) (by omega)
set_option maxRecDepth 100000 in
set_option maxHeartbeats 4000000 in
theorem op_which {xs : Nat → Int32} {n : Nat} {z : Int32} {a5 a6 : Option Value} {m k : Nat} {hp : ab_H} {t : Nat → Nat} {Q : ab_O → Prop} (H : sf_h t hp) (hs : lw_eq hp) (hz0 : 0 ≤ z.toInt) (hz1 : z.toInt + 6 ≤ n) (hn : n ≤ 3072) (hm : m + 21 ≤ 601024) (hk : k + 410 ≤ 7293034) (K : lw_K xs n z m k Q) : Ev (LT xs n) 1015 ([some (.retAddr 0), some (.ref 0), some (.ref 69), some (.ref 87), some (.int z), a5, a6], [], (m, k), hp) Q := by
  obtain ⟨hs, D, hD, hC, hX⟩ := hs
  obtain ⟨tn, htn, hsn, hn2, hbv⟩ := TB_n hs.1
  refine Ev.step (j := 1016) (s' := ([some (.retAddr 0), some (.ref 0), some (.ref 69), some (.ref 87), some (.int z), a5, a6], [.ref 0], (m, k), hp)) rfl rfl ?_
  refine bs_callx (K := kq_X10_which_z) [.ref 0] [] rfl (sf_cX ct_X10_which_z) H rfl rfl rfl (bs_rcv (g := 10) H (bs_R.uq H (g := 10) rfl) (by decide) rfl) (ls_room (Nat.le_of_ble_eq_true rfl) (by omega) (by omega)) ?_ (sf_S_nil) fun r348 hp347 thp347 Hhp347 fhp347 ahp347 php347 xhp347 => ?_
  · intro q k h
    match q, h with
    | 0, h => cases h; exact bs_jR (bs_R.uq H (g := 10) rfl)
    | q + 1, h => cases h
  obtain ⟨z349, rfl⟩ := bs_anI ahp347
  obtain ⟨y350, ey350, uy350, wy350⟩ := (php347 _ (List.mem_of_getElem? (i := 0) rfl)).1 rfl
  replace ey350 : sf_rd hp347 1 1 = some y350 := ey350
  replace uy350 : (0 : Int) ≤ y350 := uy350
  replace wy350 : y350 ≤ (0 : Int) := wy350
  have RS1 := RES_fr H fhp347 rfl hs.2
  have hsm : sf_rd hp347 69 2 = some (tn : Int) := (fhp347.2.2.1 _ (bs_R.uq H (g := 11) (p := 69) rfl).1 _ (by rw [(bs_R.uq H (g := 11) (p := 69) rfl).2]; rfl)).trans hn2
  have hb : bv hp347 70 tn = bv hp 2 tn := (bv_same (fun q => (fhp347.2.2.1 _ (bs_R.uq H (g := 131) (p := 70) rfl).1 _ (by rw [(bs_R.uq H (g := 131) (p := 70) rfl).2]; rfl)))).trans hbv
  obtain ⟨ew1, hC1, hX1⟩ := pC H (d_which hC (nat_rd hsn htn) htn) xhp347 hX
  refine (show Ev _ 1019 ([some (.retAddr 0), some (.ref 0), some (.ref 69), some (.ref 87), some (.int z), a5, a6], [.int z349], (m + 0, k + 0), hp347) _ from ?_)
  exact by
   refine Ev.step (j := 1020) (s' := ([some (.retAddr 0), some (.ref 0), some (.ref 69), some (.ref 87), some (.int z), a5, a6], [], (m + 0, k + 0), hp347)) rfl rfl ?_
   refine Ev.step (j := 1021) (s' := ([some (.retAddr 0), some (.ref 0), some (.ref 69), some (.ref 87), some (.int z), a5, a6], [.ref 69], (m + 0, k + 0), hp347)) rfl rfl ?_
   refine bs_callx (K := kq_X11_which_z) [.ref 69] [] rfl (sf_cX ct_X11_which_z) Hhp347 rfl rfl rfl (bs_rcv (g := 11) Hhp347 (bs_R.uq Hhp347 (g := 11) rfl) (by decide) rfl) (ls_room (Nat.le_of_ble_eq_true rfl) (by omega) (by omega)) ?_ (sf_S_nil) fun r352 hp351 thp351 Hhp351 fhp351 ahp351 php351 xhp351 => ?_
   · intro q k h
     match q, h with
     | 0, h => cases h; exact bs_jR (bs_R.uq Hhp347 (g := 11) rfl)
     | q + 1, h => cases h
   obtain ⟨z353, rfl⟩ := bs_anI ahp351
   obtain ⟨y354, ey354, uy354, wy354⟩ := (php351 _ (List.mem_of_getElem? (i := 0) rfl)).1 rfl
   replace ey354 : sf_rd hp351 69 2 = some y354 := ey354
   replace uy354 : (0 : Int) ≤ y354 := uy354
   replace wy354 : y354 ≤ (0 : Int) := wy354
   have hc2 := (fhp351.2.2.1 _ (bs_R.uq Hhp347 (g := 8) (p := 1) rfl).1 1 (by rw [(bs_R.uq Hhp347 (g := 8) (p := 1) rfl).2]; rfl)).trans ey350
   have E : lw_tb hp351 := ⟨TB_zero (hc2.trans (congrArg some (by omega))) (ey354.trans (congrArg some (by omega))), RES_fr Hhp347 fhp351 rfl RS1⟩
   obtain ⟨ew2, hX2, hC2⟩ := pX Hhp347 (e_which hX1 (nat_rd hsm htn) htn) xhp351 hC1
   have qw := lw_which (T := dT D) H Hhp347 htn hb
   refine (show Ev _ 1024 ([some (.retAddr 0), some (.ref 0), some (.ref 69), some (.ref 87), some (.int z), a5, a6], [.int z353], (m + 0 + 0, k + 0 + 0), hp351) _ from ?_)
   exact by
    refine Ev.step (j := 1025) (s' := ([some (.retAddr 0), some (.ref 0), some (.ref 69), some (.ref 87), some (.int z), a5, a6], [], (m + 0 + 0, k + 0 + 0), hp351)) rfl rfl ?_
    refine Ev.step (j := 1440) (s' := ([some (.retAddr 0), some (.ref 0), some (.ref 69), some (.ref 87), some (.int z), a5, a6], [], (m + 0 + 0, k + 0 + 0), hp351)) rfl rfl ?_
    exact K _ _ _ _ _ _ Hhp351 ⟨E, _, hD, hC2, hX2⟩ (by omega) (by omega)
set_option maxRecDepth 100000 in
set_option maxHeartbeats 4000000 in
theorem op_settles {xs : Nat → Int32} {n : Nat} {z : Int32} {a5 a6 : Option Value} {m k : Nat} {hp : ab_H} {t : Nat → Nat} {Q : ab_O → Prop} (H : sf_h t hp) (hs : lw_eq hp) (hz0 : 0 ≤ z.toInt) (hz1 : z.toInt + 6 ≤ n) (hn : n ≤ 3072) (hm : m + 21 ≤ 601024) (hk : k + 410 ≤ 7293034) (K : lw_K xs n z m k Q) : Ev (LT xs n) 1028 ([some (.retAddr 0), some (.ref 0), some (.ref 69), some (.ref 87), some (.int z), a5, a6], [], (m, k), hp) Q := by
  obtain ⟨hs, D, hD, hC, hX⟩ := hs
  refine Ev.step (j := 1029) (s' := ([some (.retAddr 0), some (.ref 0), some (.ref 69), some (.ref 87), some (.int z), a5, a6], [.ref 0], (m, k), hp)) rfl rfl ?_
  refine bs_callx (K := kq_X10_settles_4c18a7) [.ref 0] [] rfl (sf_cX ct_X10_settles_4c18a7) H rfl rfl rfl (bs_rcv (g := 10) H (bs_R.uq H (g := 10) rfl) (by decide) rfl) (ls_room (Nat.le_of_ble_eq_true rfl) (by omega) (by omega)) ?_ (sf_S_nil) fun r356 hp355 thp355 Hhp355 fhp355 ahp355 php355 xhp355 => ?_
  · intro q k h
    match q, h with
    | 0, h => cases h; exact bs_jR (bs_R.uq H (g := 10) rfl)
    | q + 1, h => cases h
  obtain ⟨z357, rfl⟩ := bs_anI ahp355
  have E358 := lw_keep H fhp355 rfl rfl rfl rfl rfl hs
  obtain ⟨ew1, hC1, hX1⟩ := pC H (d_settles hC) xhp355 hX
  refine (show Ev _ 1032 ([some (.retAddr 0), some (.ref 0), some (.ref 69), some (.ref 87), some (.int z), a5, a6], [.int z357], (m + 0, k + 0), hp355) _ from ?_)
  refine Ev.step (j := 1033) (s' := ([some (.retAddr 0), some (.ref 0), some (.ref 69), some (.ref 87), some (.int z), a5, a6], [], (m + 0, k + 0), hp355)) rfl rfl ?_
  exact by
   refine Ev.step (j := 1034) (s' := ([some (.retAddr 0), some (.ref 0), some (.ref 69), some (.ref 87), some (.int z), a5, a6], [.ref 69], (m + 0, k + 0), hp355)) rfl rfl ?_
   refine bs_callx (K := kq_X11_settles_h) [.ref 69] [] rfl (sf_cX ct_X11_settles_h) Hhp355 rfl rfl rfl (bs_rcv (g := 11) Hhp355 (bs_R.uq Hhp355 (g := 11) rfl) (by decide) rfl) (ls_room (Nat.le_of_ble_eq_true rfl) (by omega) (by omega)) ?_ (sf_S_nil) fun r360 hp359 thp359 Hhp359 fhp359 ahp359 php359 xhp359 => ?_
   · intro q k h
     match q, h with
     | 0, h => cases h; exact bs_jR (bs_R.uq Hhp355 (g := 11) rfl)
     | q + 1, h => cases h
   obtain ⟨z361, rfl⟩ := bs_anI ahp359
   have E362 := lw_keep Hhp355 fhp359 rfl rfl rfl rfl rfl E358
   obtain ⟨ew2, hX2, hC2⟩ := pX Hhp355 (e_settles hX1 hD) xhp359 hC1
   refine (show Ev _ 1037 ([some (.retAddr 0), some (.ref 0), some (.ref 69), some (.ref 87), some (.int z), a5, a6], [.int z361], (m + 0 + 0, k + 0 + 0), hp359) _ from ?_)
   refine Ev.step (j := 1038) (s' := ([some (.retAddr 0), some (.ref 0), some (.ref 69), some (.ref 87), some (.int z), a5, a6], [], (m + 0 + 0, k + 0 + 0), hp359)) rfl rfl ?_
   refine Ev.step (j := 1440) (s' := ([some (.retAddr 0), some (.ref 0), some (.ref 69), some (.ref 87), some (.int z), a5, a6], [], (m + 0 + 0, k + 0 + 0), hp359)) rfl rfl ?_
   exact K _ _ _ _ _ _ Hhp359 ⟨E362, _, hD, hC2, hX2⟩ (by omega) (by omega)
set_option maxRecDepth 100000 in
set_option maxHeartbeats 4000000 in
theorem op_hunger {xs : Nat → Int32} {n : Nat} {z : Int32} {a5 a6 : Option Value} {m k : Nat} {hp : ab_H} {t : Nat → Nat} {Q : ab_O → Prop} (H : sf_h t hp) (hs : lw_eq hp) (hz0 : 0 ≤ z.toInt) (hz1 : z.toInt + 6 ≤ n) (hn : n ≤ 3072) (hm : m + 21 ≤ 601024) (hk : k + 410 ≤ 7293034) (K : lw_K xs n z m k Q) : Ev (LT xs n) 1041 ([some (.retAddr 0), some (.ref 0), some (.ref 69), some (.ref 87), some (.int z), a5, a6], [], (m, k), hp) Q := by
  obtain ⟨hs, D, hD, hC, hX⟩ := hs
  refine Ev.step (j := 1042) (s' := ([some (.retAddr 0), some (.ref 0), some (.ref 69), some (.ref 87), some (.int z), a5, a6], [.ref 0], (m, k), hp)) rfl rfl ?_
  refine Ev.step (j := 1043) (s' := ([some (.retAddr 0), some (.ref 0), some (.ref 69), some (.ref 87), some (.int z), a5, a6], [.retAddr 0, .ref 0], (m, k), hp)) rfl rfl ?_
  refine Ev.step (j := 1045) (s' := ([some (.retAddr 0), some (.ref 0), some (.ref 69), some (.ref 87), some (.int z), a5, a6], [.int z, .retAddr 0, .ref 0], (m, k), hp)) rfl rfl ?_
  refine bs_lit (k := 1) rfl rfl fun z363 hz363 => ?_
  refine bs_add rfl (by omega) (by omega) fun z364 hz364 => ?_
  refine ls_sld rfl (by omega) (by omega) ?_
  refine (show Ev _ 1048 ([some (.retAddr 0), some (.ref 0), some (.ref 69), some (.ref 87), some (.int z), a5, a6], [.int (xs z364.toNatClampNeg), .ref 0], (m, k), hp) _ from ?_)
  exact by
   refine Ev.step (j := 1049) (s' := ([some (.retAddr 0), some (.ref 0), some (.ref 69), some (.ref 87), some (.int z), a5, a6], [.retAddr 0, .int (xs z364.toNatClampNeg), .ref 0], (m, k), hp)) rfl rfl ?_
   refine Ev.step (j := 1051) (s' := ([some (.retAddr 0), some (.ref 0), some (.ref 69), some (.ref 87), some (.int z), a5, a6], [.int z, .retAddr 0, .int (xs z364.toNatClampNeg), .ref 0], (m, k), hp)) rfl rfl ?_
   refine bs_lit (k := 2) rfl rfl fun z365 hz365 => ?_
   refine bs_add rfl (by omega) (by omega) fun z366 hz366 => ?_
   refine ls_sld rfl (by omega) (by omega) ?_
   refine (show Ev _ 1054 ([some (.retAddr 0), some (.ref 0), some (.ref 69), some (.ref 87), some (.int z), a5, a6], [.int (xs z366.toNatClampNeg), .int (xs z364.toNatClampNeg), .ref 0], (m, k), hp) _ from ?_)
   refine Ev.step (j := 1055) (s' := ([some (.retAddr 0), some (.ref 0), some (.ref 69), some (.ref 87), some (.int z), a5, a6], [.retAddr 0, .int (xs z366.toNatClampNeg), .int (xs z364.toNatClampNeg), .ref 0], (m, k), hp)) rfl rfl ?_
   refine Ev.step (j := 1057) (s' := ([some (.retAddr 0), some (.ref 0), some (.ref 69), some (.ref 87), some (.int z), a5, a6], [.int z, .retAddr 0, .int (xs z366.toNatClampNeg), .int (xs z364.toNatClampNeg), .ref 0], (m, k), hp)) rfl rfl ?_
   exact by
    refine bs_lit (k := 3) rfl rfl fun z367 hz367 => ?_
    refine bs_add rfl (by omega) (by omega) fun z368 hz368 => ?_
    refine ls_sld rfl (by omega) (by omega) ?_
    refine (show Ev _ 1060 ([some (.retAddr 0), some (.ref 0), some (.ref 69), some (.ref 87), some (.int z), a5, a6], [.int (xs z368.toNatClampNeg), .int (xs z366.toNatClampNeg), .int (xs z364.toNatClampNeg), .ref 0], (m, k), hp) _ from ?_)
    refine bs_callx (K := kq_X10_hunger_7e6f69) [.ref 0, .int (xs z364.toNatClampNeg), .int (xs z366.toNatClampNeg), .int (xs z368.toNatClampNeg)] [] rfl (sf_cX ct_X10_hunger_7e6f69) H rfl rfl rfl (bs_rcv (g := 10) H (bs_R.uq H (g := 10) rfl) (by decide) rfl) (ls_room (Nat.le_of_ble_eq_true rfl) (by omega) (by omega)) ?_ (sf_S_nil) fun r370 hp369 thp369 Hhp369 fhp369 ahp369 php369 xhp369 => ?_
    · intro q k h
      match q, h with
      | 0, h => cases h; exact bs_jR (bs_R.uq H (g := 10) rfl)
      | 1, h => cases h; exact sf_j0
      | 2, h => cases h; exact sf_j0
      | 3, h => cases h; exact sf_j0
      | q + 4, h => cases h
    obtain ⟨z371, rfl⟩ := bs_anI ahp369
    have E372 := lw_keep H fhp369 rfl rfl rfl rfl rfl hs
    obtain ⟨ew1, hC1, hX1⟩ := pC H (d_hunger hC hD _ _ _) xhp369 hX
    refine (show Ev _ 1063 ([some (.retAddr 0), some (.ref 0), some (.ref 69), some (.ref 87), some (.int z), a5, a6], [.int z371], (m + 0, k + 0), hp369) _ from ?_)
    exact by
     refine Ev.step (j := 1064) (s' := ([some (.retAddr 0), some (.ref 0), some (.ref 69), some (.ref 87), some (.int z), a5, a6], [], (m + 0, k + 0), hp369)) rfl rfl ?_
     refine Ev.step (j := 1065) (s' := ([some (.retAddr 0), some (.ref 0), some (.ref 69), some (.ref 87), some (.int z), a5, a6], [.ref 69], (m + 0, k + 0), hp369)) rfl rfl ?_
     refine Ev.step (j := 1066) (s' := ([some (.retAddr 0), some (.ref 0), some (.ref 69), some (.ref 87), some (.int z), a5, a6], [.retAddr 0, .ref 69], (m + 0, k + 0), hp369)) rfl rfl ?_
     refine Ev.step (j := 1068) (s' := ([some (.retAddr 0), some (.ref 0), some (.ref 69), some (.ref 87), some (.int z), a5, a6], [.int z, .retAddr 0, .ref 69], (m + 0, k + 0), hp369)) rfl rfl ?_
     refine bs_lit (k := 1) rfl rfl fun z373 hz373 => ?_
     refine bs_add rfl (by omega) (by omega) fun z374 hz374 => ?_
     refine ls_sld rfl (by omega) (by omega) ?_
     refine (show Ev _ 1071 ([some (.retAddr 0), some (.ref 0), some (.ref 69), some (.ref 87), some (.int z), a5, a6], [.int (xs z374.toNatClampNeg), .ref 69], (m + 0, k + 0), hp369) _ from ?_)
     exact by
      refine Ev.step (j := 1072) (s' := ([some (.retAddr 0), some (.ref 0), some (.ref 69), some (.ref 87), some (.int z), a5, a6], [.retAddr 0, .int (xs z374.toNatClampNeg), .ref 69], (m + 0, k + 0), hp369)) rfl rfl ?_
      refine Ev.step (j := 1074) (s' := ([some (.retAddr 0), some (.ref 0), some (.ref 69), some (.ref 87), some (.int z), a5, a6], [.int z, .retAddr 0, .int (xs z374.toNatClampNeg), .ref 69], (m + 0, k + 0), hp369)) rfl rfl ?_
      refine bs_lit (k := 2) rfl rfl fun z375 hz375 => ?_
      refine bs_add rfl (by omega) (by omega) fun z376 hz376 => ?_
      refine ls_sld rfl (by omega) (by omega) ?_
      refine (show Ev _ 1077 ([some (.retAddr 0), some (.ref 0), some (.ref 69), some (.ref 87), some (.int z), a5, a6], [.int (xs z376.toNatClampNeg), .int (xs z374.toNatClampNeg), .ref 69], (m + 0, k + 0), hp369) _ from ?_)
      refine Ev.step (j := 1078) (s' := ([some (.retAddr 0), some (.ref 0), some (.ref 69), some (.ref 87), some (.int z), a5, a6], [.retAddr 0, .int (xs z376.toNatClampNeg), .int (xs z374.toNatClampNeg), .ref 69], (m + 0, k + 0), hp369)) rfl rfl ?_
      refine Ev.step (j := 1080) (s' := ([some (.retAddr 0), some (.ref 0), some (.ref 69), some (.ref 87), some (.int z), a5, a6], [.int z, .retAddr 0, .int (xs z376.toNatClampNeg), .int (xs z374.toNatClampNeg), .ref 69], (m + 0, k + 0), hp369)) rfl rfl ?_
      exact by
       refine bs_lit (k := 3) rfl rfl fun z377 hz377 => ?_
       refine bs_add rfl (by omega) (by omega) fun z378 hz378 => ?_
       refine ls_sld rfl (by omega) (by omega) ?_
       refine (show Ev _ 1083 ([some (.retAddr 0), some (.ref 0), some (.ref 69), some (.ref 87), some (.int z), a5, a6], [.int (xs z378.toNatClampNeg), .int (xs z376.toNatClampNeg), .int (xs z374.toNatClampNeg), .ref 69], (m + 0, k + 0), hp369) _ from ?_)
       refine bs_callx (K := kq_X11_hunger_3518ea) [.ref 69, .int (xs z374.toNatClampNeg), .int (xs z376.toNatClampNeg), .int (xs z378.toNatClampNeg)] [] rfl (sf_cX ct_X11_hunger_3518ea) Hhp369 rfl rfl rfl (bs_rcv (g := 11) Hhp369 (bs_R.uq Hhp369 (g := 11) rfl) (by decide) rfl) (ls_room (Nat.le_of_ble_eq_true rfl) (by omega) (by omega)) ?_ (sf_S_nil) fun r380 hp379 thp379 Hhp379 fhp379 ahp379 php379 xhp379 => ?_
       · intro q k h
         match q, h with
         | 0, h => cases h; exact bs_jR (bs_R.uq Hhp369 (g := 11) rfl)
         | 1, h => cases h; exact sf_j0
         | 2, h => cases h; exact sf_j0
         | 3, h => cases h; exact sf_j0
         | q + 4, h => cases h
       obtain ⟨z381, rfl⟩ := bs_anI ahp379
       have E382 := lw_keep Hhp369 fhp379 rfl rfl rfl rfl rfl E372
       rw [show z374 = z364 from Int32.toInt_inj.mp (by omega)] at xhp379
       rw [show z376 = z366 from Int32.toInt_inj.mp (by omega)] at xhp379
       rw [show z378 = z368 from Int32.toInt_inj.mp (by omega)] at xhp379
       obtain ⟨ew2, hX2, hC2⟩ := pX Hhp369 (e_hunger hX1 hD _ _ _) xhp379 hC1
       refine (show Ev _ 1086 ([some (.retAddr 0), some (.ref 0), some (.ref 69), some (.ref 87), some (.int z), a5, a6], [.int z381], (m + 0 + 0, k + 0 + 0), hp379) _ from ?_)
       exact by
        refine Ev.step (j := 1087) (s' := ([some (.retAddr 0), some (.ref 0), some (.ref 69), some (.ref 87), some (.int z), a5, a6], [], (m + 0 + 0, k + 0 + 0), hp379)) rfl rfl ?_
        refine Ev.step (j := 1440) (s' := ([some (.retAddr 0), some (.ref 0), some (.ref 69), some (.ref 87), some (.int z), a5, a6], [], (m + 0 + 0, k + 0 + 0), hp379)) rfl rfl ?_
        exact K _ _ _ _ _ _ Hhp379 ⟨E382, _, hD, hC2, hX2⟩ (by omega) (by omega)
set_option maxRecDepth 100000 in
set_option maxHeartbeats 4000000 in
theorem op_prices {xs : Nat → Int32} {n : Nat} {z : Int32} {a5 a6 : Option Value} {m k : Nat} {hp : ab_H} {t : Nat → Nat} {Q : ab_O → Prop} (H : sf_h t hp) (hs : lw_eq hp) (hz0 : 0 ≤ z.toInt) (hz1 : z.toInt + 6 ≤ n) (hn : n ≤ 3072) (hm : m + 21 ≤ 601024) (hk : k + 410 ≤ 7293034) (K : lw_K xs n z m k Q) : Ev (LT xs n) 1090 ([some (.retAddr 0), some (.ref 0), some (.ref 69), some (.ref 87), some (.int z), a5, a6], [], (m, k), hp) Q := by
  obtain ⟨hs, D, hD, hC, hX⟩ := hs
  refine Ev.step (j := 1091) (s' := ([some (.retAddr 0), some (.ref 0), some (.ref 69), some (.ref 87), some (.int z), a5, a6], [.ref 0], (m, k), hp)) rfl rfl ?_
  refine bs_callx (K := kq_X10_prices_4c18a7) [.ref 0] [] rfl (sf_cX ct_X10_prices_4c18a7) H rfl rfl rfl (bs_rcv (g := 10) H (bs_R.uq H (g := 10) rfl) (by decide) rfl) (ls_room (Nat.le_of_ble_eq_true rfl) (by omega) (by omega)) ?_ (sf_S_nil) fun r384 hp383 thp383 Hhp383 fhp383 ahp383 php383 xhp383 => ?_
  · intro q k h
    match q, h with
    | 0, h => cases h; exact bs_jR (bs_R.uq H (g := 10) rfl)
    | q + 1, h => cases h
  obtain ⟨z385, rfl⟩ := bs_anI ahp383
  have E386 := lw_keep H fhp383 rfl rfl rfl rfl rfl hs
  obtain ⟨ew1, hC1, hX1⟩ := pC H (d_prices hC) xhp383 hX
  refine (show Ev _ 1094 ([some (.retAddr 0), some (.ref 0), some (.ref 69), some (.ref 87), some (.int z), a5, a6], [.int z385], (m + 0, k + 0), hp383) _ from ?_)
  refine Ev.step (j := 1095) (s' := ([some (.retAddr 0), some (.ref 0), some (.ref 69), some (.ref 87), some (.int z), a5, a6], [], (m + 0, k + 0), hp383)) rfl rfl ?_
  exact by
   refine Ev.step (j := 1096) (s' := ([some (.retAddr 0), some (.ref 0), some (.ref 69), some (.ref 87), some (.int z), a5, a6], [.ref 69], (m + 0, k + 0), hp383)) rfl rfl ?_
   refine bs_callx (K := kq_X11_prices_6afe8b) [.ref 69] [] rfl (sf_cX ct_X11_prices_6afe8b) Hhp383 rfl rfl rfl (bs_rcv (g := 11) Hhp383 (bs_R.uq Hhp383 (g := 11) rfl) (by decide) rfl) (ls_room (Nat.le_of_ble_eq_true rfl) (by omega) (by omega)) ?_ (sf_S_nil) fun r388 hp387 thp387 Hhp387 fhp387 ahp387 php387 xhp387 => ?_
   · intro q k h
     match q, h with
     | 0, h => cases h; exact bs_jR (bs_R.uq Hhp383 (g := 11) rfl)
     | q + 1, h => cases h
   obtain ⟨z389, rfl⟩ := bs_anI ahp387
   have E390 := lw_keep Hhp383 fhp387 rfl rfl rfl rfl rfl E386
   obtain ⟨ew2, hX2, hC2⟩ := pX Hhp383 (e_prices hX1 hD) xhp387 hC1
   refine (show Ev _ 1099 ([some (.retAddr 0), some (.ref 0), some (.ref 69), some (.ref 87), some (.int z), a5, a6], [.int z389], (m + 0 + 0, k + 0 + 0), hp387) _ from ?_)
   refine Ev.step (j := 1100) (s' := ([some (.retAddr 0), some (.ref 0), some (.ref 69), some (.ref 87), some (.int z), a5, a6], [], (m + 0 + 0, k + 0 + 0), hp387)) rfl rfl ?_
   refine Ev.step (j := 1440) (s' := ([some (.retAddr 0), some (.ref 0), some (.ref 69), some (.ref 87), some (.int z), a5, a6], [], (m + 0 + 0, k + 0 + 0), hp387)) rfl rfl ?_
   exact K _ _ _ _ _ _ Hhp387 ⟨E390, _, hD, hC2, hX2⟩ (by omega) (by omega)
end
