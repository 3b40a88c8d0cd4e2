set_option maxRecDepth 100000 in
set_option maxHeartbeats 4000000 in
theorem op_undo {xs : Nat → Int32} {n : Nat} {z : Int32} {a5 a6 : Option Value} {m k : Nat} {hp : ab_H} {t : Nat → Nat} {Q : ab_O → Prop} (H : sf_h t hp) (hs : lw_eq hp) (hz0 : 0 ≤ z.toInt) (hz1 : z.toInt + 6 ≤ n) (hn : n ≤ 3072) (hm : m + 21 ≤ 601024) (hk : k + 410 ≤ 7293034) (K : lw_K xs n z m k Q) : Ev (LT xs n) 729 ([some (.retAddr 0), some (.ref 0), some (.ref 69), some (.ref 87), some (.int z), a5, a6], [], (m, k), hp) Q := by
  refine Ev.step (j := 730) (s' := ([some (.retAddr 0), some (.ref 0), some (.ref 69), some (.ref 87), some (.int z), a5, a6], [.ref 0], (m, k), hp)) rfl rfl ?_
  refine bs_call (K := kq_X10_undo_4c18a7) [.ref 0] [] rfl ct_X10_undo_4c18a7 H rfl rfl rfl (bs_rcv (g := 10) H (bs_R.uq H (g := 10) rfl) (by decide) rfl) (ls_room (Nat.le_of_ble_eq_true rfl) (by omega) (by omega)) ?_ (sf_S_nil) fun r194 hp193 thp193 Hhp193 fhp193 ahp193 php193 => ?_
  · intro q k h
    match q, h with
    | 0, h => cases h; exact bs_jR (bs_R.uq H (g := 10) rfl)
    | q + 1, h => cases h
  obtain ⟨z195, rfl⟩ := bs_anI ahp193
  refine (show Ev _ 733 ([some (.retAddr 0), some (.ref 0), some (.ref 69), some (.ref 87), some (.int z), a5, a6], [.int z195], (m + 0, k + 0), hp193) _ from ?_)
  refine Ev.step (j := 734) (s' := ([some (.retAddr 0), some (.ref 0), some (.ref 69), some (.ref 87), some (.int z), a5, a6], [], (m + 0, k + 0), hp193)) rfl rfl ?_
  refine Ev.step (j := 735) (s' := ([some (.retAddr 0), some (.ref 0), some (.ref 69), some (.ref 87), some (.int z), a5, a6], [.ref 69], (m + 0, k + 0), hp193)) rfl rfl ?_
  refine bs_call (K := kq_X11_undo_h) [.ref 69] [] rfl ct_X11_undo_h Hhp193 rfl rfl rfl (bs_rcv (g := 11) Hhp193 (bs_R.uq Hhp193 (g := 11) rfl) (by decide) rfl) (ls_room (Nat.le_of_ble_eq_true rfl) (by omega) (by omega)) ?_ (sf_S_nil) fun r197 hp196 thp196 Hhp196 fhp196 ahp196 php196 => ?_
  · intro q k h
    match q, h with
    | 0, h => cases h; exact bs_jR (bs_R.uq Hhp193 (g := 11) rfl)
    | q + 1, h => cases h
  obtain ⟨z198, rfl⟩ := bs_anI ahp196
  refine (show Ev _ 738 ([some (.retAddr 0), some (.ref 0), some (.ref 69), some (.ref 87), some (.int z), a5, a6], [.int z198], (m + 0 + 0, k + 0 + 0), hp196) _ from ?_)
  refine Ev.step (j := 739) (s' := ([some (.retAddr 0), some (.ref 0), some (.ref 69), some (.ref 87), some (.int z), a5, a6], [], (m + 0 + 0, k + 0 + 0), hp196)) rfl rfl ?_
  refine Ev.step (j := 1440) (s' := ([some (.retAddr 0), some (.ref 0), some (.ref 69), some (.ref 87), some (.int z), a5, a6], [], (m + 0 + 0, k + 0 + 0), hp196)) rfl rfl ?_
  exact K _ _ _ _ _ _ Hhp196 True.intro (by omega) (by omega)
set_option maxRecDepth 100000 in
set_option maxHeartbeats 4000000 in
theorem op_lacks {xs : Nat → Int32} {n : Nat} {z : Int32} {a5 a6 : Option Value} {m k : Nat} {hp : ab_H} {t : Nat → Nat} {Q : ab_O → Prop} (H : sf_h t hp) (hs : lw_eq hp) (hz0 : 0 ≤ z.toInt) (hz1 : z.toInt + 6 ≤ n) (hn : n ≤ 3072) (hm : m + 21 ≤ 601024) (hk : k + 410 ≤ 7293034) (K : lw_K xs n z m k Q) : Ev (LT xs n) 742 ([some (.retAddr 0), some (.ref 0), some (.ref 69), some (.ref 87), some (.int z), a5, a6], [], (m, k), hp) Q := by
  refine Ev.step (j := 743) (s' := ([some (.retAddr 0), some (.ref 0), some (.ref 69), some (.ref 87), some (.int z), a5, a6], [.ref 0], (m, k), hp)) rfl rfl ?_
  refine Ev.step (j := 744) (s' := ([some (.retAddr 0), some (.ref 0), some (.ref 69), some (.ref 87), some (.int z), a5, a6], [.retAddr 0, .ref 0], (m, k), hp)) rfl rfl ?_
  refine Ev.step (j := 746) (s' := ([some (.retAddr 0), some (.ref 0), some (.ref 69), some (.ref 87), some (.int z), a5, a6], [.int z, .retAddr 0, .ref 0], (m, k), hp)) rfl rfl ?_
  refine bs_lit (k := 1) rfl rfl fun z199 hz199 => ?_
  refine bs_add rfl (by omega) (by omega) fun z200 hz200 => ?_
  refine ls_sld rfl (by omega) (by omega) ?_
  refine (show Ev _ 749 ([some (.retAddr 0), some (.ref 0), some (.ref 69), some (.ref 87), some (.int z), a5, a6], [.int (xs z200.toNatClampNeg), .ref 0], (m, k), hp) _ from ?_)
  refine bs_call (K := kq_X10_lacks_0df2a5) [.ref 0, .int (xs z200.toNatClampNeg)] [] rfl ct_X10_lacks_0df2a5 H rfl rfl rfl (bs_rcv (g := 10) H (bs_R.uq H (g := 10) rfl) (by decide) rfl) (ls_room (Nat.le_of_ble_eq_true rfl) (by omega) (by omega)) ?_ (sf_S_nil) fun r202 hp201 thp201 Hhp201 fhp201 ahp201 php201 => ?_
  · intro q k h
    match q, h with
    | 0, h => cases h; exact bs_jR (bs_R.uq H (g := 10) rfl)
    | 1, h => cases h; exact sf_j0
    | q + 2, h => cases h
  obtain ⟨z203, rfl⟩ := bs_anI ahp201
  refine (show Ev _ 752 ([some (.retAddr 0), some (.ref 0), some (.ref 69), some (.ref 87), some (.int z), a5, a6], [.int z203], (m + 0, k + 0), hp201) _ from ?_)
  refine Ev.step (j := 753) (s' := ([some (.retAddr 0), some (.ref 0), some (.ref 69), some (.ref 87), some (.int z), a5, a6], [], (m + 0, k + 0), hp201)) rfl rfl ?_
  refine Ev.step (j := 754) (s' := ([some (.retAddr 0), some (.ref 0), some (.ref 69), some (.ref 87), some (.int z), a5, a6], [.ref 69], (m + 0, k + 0), hp201)) rfl rfl ?_
  refine Ev.step (j := 755) (s' := ([some (.retAddr 0), some (.ref 0), some (.ref 69), some (.ref 87), some (.int z), a5, a6], [.retAddr 0, .ref 69], (m + 0, k + 0), hp201)) rfl rfl ?_
  refine Ev.step (j := 757) (s' := ([some (.retAddr 0), some (.ref 0), some (.ref 69), some (.ref 87), some (.int z), a5, a6], [.int z, .retAddr 0, .ref 69], (m + 0, k + 0), hp201)) rfl rfl ?_
  refine bs_lit (k := 1) rfl rfl fun z204 hz204 => ?_
  refine bs_add rfl (by omega) (by omega) fun z205 hz205 => ?_
  refine ls_sld rfl (by omega) (by omega) ?_
  refine (show Ev _ 760 ([some (.retAddr 0), some (.ref 0), some (.ref 69), some (.ref 87), some (.int z), a5, a6], [.int (xs z205.toNatClampNeg), .ref 69], (m + 0, k + 0), hp201) _ from ?_)
  refine bs_call (K := kq_X11_lacks_3d45d6) [.ref 69, .int (xs z205.toNatClampNeg)] [] rfl ct_X11_lacks_3d45d6 Hhp201 rfl rfl rfl (bs_rcv (g := 11) Hhp201 (bs_R.uq Hhp201 (g := 11) rfl) (by decide) rfl) (ls_room (Nat.le_of_ble_eq_true rfl) (by omega) (by omega)) ?_ (sf_S_nil) fun r207 hp206 thp206 Hhp206 fhp206 ahp206 php206 => ?_
  · intro q k h
    match q, h with
    | 0, h => cases h; exact bs_jR (bs_R.uq Hhp201 (g := 11) rfl)
    | 1, h => cases h; exact sf_j0
    | q + 2, h => cases h
  obtain ⟨z208, rfl⟩ := bs_anI ahp206
  refine (show Ev _ 763 ([some (.retAddr 0), some (.ref 0), some (.ref 69), some (.ref 87), some (.int z), a5, a6], [.int z208], (m + 0 + 0, k + 0 + 0), hp206) _ from ?_)
  refine Ev.step (j := 764) (s' := ([some (.retAddr 0), some (.ref 0), some (.ref 69), some (.ref 87), some (.int z), a5, a6], [], (m + 0 + 0, k + 0 + 0), hp206)) rfl rfl ?_
  refine Ev.step (j := 1440) (s' := ([some (.retAddr 0), some (.ref 0), some (.ref 69), some (.ref 87), some (.int z), a5, a6], [], (m + 0 + 0, k + 0 + 0), hp206)) rfl rfl ?_
  exact K _ _ _ _ _ _ Hhp206 True.intro (by omega) (by omega)
set_option maxRecDepth 100000 in
set_option maxHeartbeats 4000000 in
theorem op_falses {xs : Nat → Int32} {n : Nat} {z : Int32} {a5 a6 : Option Value} {m k : Nat} {hp : ab_H} {t : Nat → Nat} {Q : ab_O → Prop} (H : sf_h t hp) (hs : lw_eq hp) (hz0 : 0 ≤ z.toInt) (hz1 : z.toInt + 6 ≤ n) (hn : n ≤ 3072) (hm : m + 21 ≤ 601024) (hk : k + 410 ≤ 7293034) (K : lw_K xs n z m k Q) : Ev (LT xs n) 767 ([some (.retAddr 0), some (.ref 0), some (.ref 69), some (.ref 87), some (.int z), a5, a6], [], (m, k), hp) Q := by
  refine Ev.step (j := 768) (s' := ([some (.retAddr 0), some (.ref 0), some (.ref 69), some (.ref 87), some (.int z), a5, a6], [.ref 0], (m, k), hp)) rfl rfl ?_
  refine Ev.step (j := 769) (s' := ([some (.retAddr 0), some (.ref 0), some (.ref 69), some (.ref 87), some (.int z), a5, a6], [.retAddr 0, .ref 0], (m, k), hp)) rfl rfl ?_
  refine Ev.step (j := 771) (s' := ([some (.retAddr 0), some (.ref 0), some (.ref 69), some (.ref 87), some (.int z), a5, a6], [.int z, .retAddr 0, .ref 0], (m, k), hp)) rfl rfl ?_
  refine bs_lit (k := 1) rfl rfl fun z209 hz209 => ?_
  refine bs_add rfl (by omega) (by omega) fun z210 hz210 => ?_
  refine ls_sld rfl (by omega) (by omega) ?_
  refine (show Ev _ 774 ([some (.retAddr 0), some (.ref 0), some (.ref 69), some (.ref 87), some (.int z), a5, a6], [.int (xs z210.toNatClampNeg), .ref 0], (m, k), hp) _ from ?_)
  refine bs_call (K := kq_X10_falses_0df2a5) [.ref 0, .int (xs z210.toNatClampNeg)] [] rfl ct_X10_falses_0df2a5 H rfl rfl rfl (bs_rcv (g := 10) H (bs_R.uq H (g := 10) rfl) (by decide) rfl) (ls_room (Nat.le_of_ble_eq_true rfl) (by omega) (by omega)) ?_ (sf_S_nil) fun r212 hp211 thp211 Hhp211 fhp211 ahp211 php211 => ?_
  · intro q k h
    match q, h with
    | 0, h => cases h; exact bs_jR (bs_R.uq H (g := 10) rfl)
    | 1, h => cases h; exact sf_j0
    | q + 2, h => cases h
  obtain ⟨z213, rfl⟩ := bs_anI ahp211
  refine (show Ev _ 777 ([some (.retAddr 0), some (.ref 0), some (.ref 69), some (.ref 87), some (.int z), a5, a6], [.int z213], (m + 0, k + 0), hp211) _ from ?_)
  refine Ev.step (j := 778) (s' := ([some (.retAddr 0), some (.ref 0), some (.ref 69), some (.ref 87), some (.int z), a5, a6], [], (m + 0, k + 0), hp211)) rfl rfl ?_
  refine Ev.step (j := 779) (s' := ([some (.retAddr 0), some (.ref 0), some (.ref 69), some (.ref 87), some (.int z), a5, a6], [.ref 69], (m + 0, k + 0), hp211)) rfl rfl ?_
  refine Ev.step (j := 780) (s' := ([some (.retAddr 0), some (.ref 0), some (.ref 69), some (.ref 87), some (.int z), a5, a6], [.retAddr 0, .ref 69], (m + 0, k + 0), hp211)) rfl rfl ?_
  refine Ev.step (j := 782) (s' := ([some (.retAddr 0), some (.ref 0), some (.ref 69), some (.ref 87), some (.int z), a5, a6], [.int z, .retAddr 0, .ref 69], (m + 0, k + 0), hp211)) rfl rfl ?_
  refine bs_lit (k := 1) rfl rfl fun z214 hz214 => ?_
  refine bs_add rfl (by omega) (by omega) fun z215 hz215 => ?_
  refine ls_sld rfl (by omega) (by omega) ?_
  refine (show Ev _ 785 ([some (.retAddr 0), some (.ref 0), some (.ref 69), some (.ref 87), some (.int z), a5, a6], [.int (xs z215.toNatClampNeg), .ref 69], (m + 0, k + 0), hp211) _ from ?_)
  refine bs_call (K := kq_X11_falses_3d45d6) [.ref 69, .int (xs z215.toNatClampNeg)] [] rfl ct_X11_falses_3d45d6 Hhp211 rfl rfl rfl (bs_rcv (g := 11) Hhp211 (bs_R.uq Hhp211 (g := 11) rfl) (by decide) rfl) (ls_room (Nat.le_of_ble_eq_true rfl) (by omega) (by omega)) ?_ (sf_S_nil) fun r217 hp216 thp216 Hhp216 fhp216 ahp216 php216 => ?_
  · intro q k h
    match q, h with
    | 0, h => cases h; exact bs_jR (bs_R.uq Hhp211 (g := 11) rfl)
    | 1, h => cases h; exact sf_j0
    | q + 2, h => cases h
  obtain ⟨z218, rfl⟩ := bs_anI ahp216
  refine (show Ev _ 788 ([some (.retAddr 0), some (.ref 0), some (.ref 69), some (.ref 87), some (.int z), a5, a6], [.int z218], (m + 0 + 0, k + 0 + 0), hp216) _ from ?_)
  refine Ev.step (j := 789) (s' := ([some (.retAddr 0), some (.ref 0), some (.ref 69), some (.ref 87), some (.int z), a5, a6], [], (m + 0 + 0, k + 0 + 0), hp216)) rfl rfl ?_
  refine Ev.step (j := 1440) (s' := ([some (.retAddr 0), some (.ref 0), some (.ref 69), some (.ref 87), some (.int z), a5, a6], [], (m + 0 + 0, k + 0 + 0), hp216)) rfl rfl ?_
  exact K _ _ _ _ _ _ Hhp216 True.intro (by omega) (by omega)
set_option maxRecDepth 100000 in
set_option maxHeartbeats 4000000 in
theorem op_going {xs : Nat → Int32} {n : Nat} {z : Int32} {a5 a6 : Option Value} {m k : Nat} {hp : ab_H} {t : Nat → Nat} {Q : ab_O → Prop} (H : sf_h t hp) (hs : lw_eq hp) (hz0 : 0 ≤ z.toInt) (hz1 : z.toInt + 6 ≤ n) (hn : n ≤ 3072) (hm : m + 21 ≤ 601024) (hk : k + 410 ≤ 7293034) (K : lw_K xs n z m k Q) : Ev (LT xs n) 792 ([some (.retAddr 0), some (.ref 0), some (.ref 69), some (.ref 87), some (.int z), a5, a6], [], (m, k), hp) Q := by
  refine Ev.step (j := 793) (s' := ([some (.retAddr 0), some (.ref 0), some (.ref 69), some (.ref 87), some (.int z), a5, a6], [.ref 0], (m, k), hp)) rfl rfl ?_
  refine bs_call (K := kq_X10_going_4c18a7) [.ref 0] [] rfl ct_X10_going_4c18a7 H rfl rfl rfl (bs_rcv (g := 10) H (bs_R.uq H (g := 10) rfl) (by decide) rfl) (ls_room (Nat.le_of_ble_eq_true rfl) (by omega) (by omega)) ?_ (sf_S_nil) fun r220 hp219 thp219 Hhp219 fhp219 ahp219 php219 => ?_
  · intro q k h
    match q, h with
    | 0, h => cases h; exact bs_jR (bs_R.uq H (g := 10) rfl)
    | q + 1, h => cases h
  obtain ⟨z221, rfl⟩ := bs_anI ahp219
  refine (show Ev _ 796 ([some (.retAddr 0), some (.ref 0), some (.ref 69), some (.ref 87), some (.int z), a5, a6], [.int z221], (m + 0, k + 0), hp219) _ from ?_)
  refine Ev.step (j := 797) (s' := ([some (.retAddr 0), some (.ref 0), some (.ref 69), some (.ref 87), some (.int z), a5, a6], [], (m + 0, k + 0), hp219)) rfl rfl ?_
  refine Ev.step (j := 798) (s' := ([some (.retAddr 0), some (.ref 0), some (.ref 69), some (.ref 87), some (.int z), a5, a6], [.ref 69], (m + 0, k + 0), hp219)) rfl rfl ?_
  refine bs_call (K := kq_X11_going_6afe8b) [.ref 69] [] rfl ct_X11_going_6afe8b Hhp219 rfl rfl rfl (bs_rcv (g := 11) Hhp219 (bs_R.uq Hhp219 (g := 11) rfl) (by decide) rfl) (ls_room (Nat.le_of_ble_eq_true rfl) (by omega) (by omega)) ?_ (sf_S_nil) fun r223 hp222 thp222 Hhp222 fhp222 ahp222 php222 => ?_
  · intro q k h
    match q, h with
    | 0, h => cases h; exact bs_jR (bs_R.uq Hhp219 (g := 11) rfl)
    | q + 1, h => cases h
  obtain ⟨z224, rfl⟩ := bs_anI ahp222
  refine (show Ev _ 801 ([some (.retAddr 0), some (.ref 0), some (.ref 69), some (.ref 87), some (.int z), a5, a6], [.int z224], (m + 0 + 0, k + 0 + 0), hp222) _ from ?_)
  refine Ev.step (j := 802) (s' := ([some (.retAddr 0), some (.ref 0), some (.ref 69), some (.ref 87), some (.int z), a5, a6], [], (m + 0 + 0, k + 0 + 0), hp222)) rfl rfl ?_
  refine Ev.step (j := 1440) (s' := ([some (.retAddr 0), some (.ref 0), some (.ref 69), some (.ref 87), some (.int z), a5, a6], [], (m + 0 + 0, k + 0 + 0), hp222)) rfl rfl ?_
  exact K _ _ _ _ _ _ Hhp222 True.intro (by omega) (by omega)
set_option maxRecDepth 100000 in
set_option maxHeartbeats 4000000 in
theorem op_goes {xs : Nat → Int32} {n : Nat} {z : Int32} {a5 a6 : Option Value} {m k : Nat} {hp : ab_H} {t : Nat → Nat} {Q : ab_O → Prop} (H : sf_h t hp) (hs : lw_eq hp) (hz0 : 0 ≤ z.toInt) (hz1 : z.toInt + 6 ≤ n) (hn : n ≤ 3072) (hm : m + 21 ≤ 601024) (hk : k + 410 ≤ 7293034) (K : lw_K xs n z m k Q) : Ev (LT xs n) 805 ([some (.retAddr 0), some (.ref 0), some (.ref 69), some (.ref 87), some (.int z), a5, a6], [], (m, k), hp) Q := by
  refine Ev.step (j := 806) (s' := ([some (.retAddr 0), some (.ref 0), some (.ref 69), some (.ref 87), some (.int z), a5, a6], [.ref 0], (m, k), hp)) rfl rfl ?_
  refine Ev.step (j := 807) (s' := ([some (.retAddr 0), some (.ref 0), some (.ref 69), some (.ref 87), some (.int z), a5, a6], [.retAddr 0, .ref 0], (m, k), hp)) rfl rfl ?_
  refine Ev.step (j := 809) (s' := ([some (.retAddr 0), some (.ref 0), some (.ref 69), some (.ref 87), some (.int z), a5, a6], [.int z, .retAddr 0, .ref 0], (m, k), hp)) rfl rfl ?_
  refine bs_lit (k := 1) rfl rfl fun z225 hz225 => ?_
  refine bs_add rfl (by omega) (by omega) fun z226 hz226 => ?_
  refine ls_sld rfl (by omega) (by omega) ?_
  refine (show Ev _ 812 ([some (.retAddr 0), some (.ref 0), some (.ref 69), some (.ref 87), some (.int z), a5, a6], [.int (xs z226.toNatClampNeg), .ref 0], (m, k), hp) _ from ?_)
  refine bs_call (K := kq_X10_goes_0df2a5) [.ref 0, .int (xs z226.toNatClampNeg)] [] rfl ct_X10_goes_0df2a5 H rfl rfl rfl (bs_rcv (g := 10) H (bs_R.uq H (g := 10) rfl) (by decide) rfl) (ls_room (Nat.le_of_ble_eq_true rfl) (by omega) (by omega)) ?_ (sf_S_nil) fun r228 hp227 thp227 Hhp227 fhp227 ahp227 php227 => ?_
  · intro q k h
    match q, h with
    | 0, h => cases h; exact bs_jR (bs_R.uq H (g := 10) rfl)
    | 1, h => cases h; exact sf_j0
    | q + 2, h => cases h
  obtain ⟨z229, rfl⟩ := bs_anI ahp227
  refine (show Ev _ 815 ([some (.retAddr 0), some (.ref 0), some (.ref 69), some (.ref 87), some (.int z), a5, a6], [.int z229], (m + 0, k + 0), hp227) _ from ?_)
  refine Ev.step (j := 816) (s' := ([some (.retAddr 0), some (.ref 0), some (.ref 69), some (.ref 87), some (.int z), a5, a6], [], (m + 0, k + 0), hp227)) rfl rfl ?_
  refine Ev.step (j := 817) (s' := ([some (.retAddr 0), some (.ref 0), some (.ref 69), some (.ref 87), some (.int z), a5, a6], [.ref 69], (m + 0, k + 0), hp227)) rfl rfl ?_
  refine Ev.step (j := 818) (s' := ([some (.retAddr 0), some (.ref 0), some (.ref 69), some (.ref 87), some (.int z), a5, a6], [.retAddr 0, .ref 69], (m + 0, k + 0), hp227)) rfl rfl ?_
  refine Ev.step (j := 820) (s' := ([some (.retAddr 0), some (.ref 0), some (.ref 69), some (.ref 87), some (.int z), a5, a6], [.int z, .retAddr 0, .ref 69], (m + 0, k + 0), hp227)) rfl rfl ?_
  refine bs_lit (k := 1) rfl rfl fun z230 hz230 => ?_
  refine bs_add rfl (by omega) (by omega) fun z231 hz231 => ?_
  refine ls_sld rfl (by omega) (by omega) ?_
  refine (show Ev _ 823 ([some (.retAddr 0), some (.ref 0), some (.ref 69), some (.ref 87), some (.int z), a5, a6], [.int (xs z231.toNatClampNeg), .ref 69], (m + 0, k + 0), hp227) _ from ?_)
  refine bs_call (K := kq_X11_goes_h) [.ref 69, .int (xs z231.toNatClampNeg)] [] rfl ct_X11_goes_h Hhp227 rfl rfl rfl (bs_rcv (g := 11) Hhp227 (bs_R.uq Hhp227 (g := 11) rfl) (by decide) rfl) (ls_room (Nat.le_of_ble_eq_true rfl) (by omega) (by omega)) ?_ (sf_S_nil) fun r233 hp232 thp232 Hhp232 fhp232 ahp232 php232 => ?_
  · intro q k h
    match q, h with
    | 0, h => cases h; exact bs_jR (bs_R.uq Hhp227 (g := 11) rfl)
    | 1, h => cases h; exact sf_j0
    | q + 2, h => cases h
  obtain ⟨z234, rfl⟩ := bs_anI ahp232
  refine (show Ev _ 826 ([some (.retAddr 0), some (.ref 0), some (.ref 69), some (.ref 87), some (.int z), a5, a6], [.int z234], (m + 0 + 0, k + 0 + 0), hp232) _ from ?_)
  refine Ev.step (j := 827) (s' := ([some (.retAddr 0), some (.ref 0), some (.ref 69), some (.ref 87), some (.int z), a5, a6], [], (m + 0 + 0, k + 0 + 0), hp232)) rfl rfl ?_
  refine Ev.step (j := 1440) (s' := ([some (.retAddr 0), some (.ref 0), some (.ref 69), some (.ref 87), some (.int z), a5, a6], [], (m + 0 + 0, k + 0 + 0), hp232)) rfl rfl ?_
  exact K _ _ _ _ _ _ Hhp232 True.intro (by omega) (by omega)
set_option maxRecDepth 100000 in
set_option maxHeartbeats 4000000 in
theorem op_crosses {xs : Nat → Int32} {n : Nat} {z : Int32} {a5 a6 : Option Value} {m k : Nat} {hp : ab_H} {t : Nat → Nat} {Q : ab_O → Prop} (H : sf_h t hp) (hs : lw_eq hp) (hz0 : 0 ≤ z.toInt) (hz1 : z.toInt + 6 ≤ n) (hn : n ≤ 3072) (hm : m + 21 ≤ 601024) (hk : k + 410 ≤ 7293034) (K : lw_K xs n z m k Q) : Ev (LT xs n) 830 ([some (.retAddr 0), some (.ref 0), some (.ref 69), some (.ref 87), some (.int z), a5, a6], [], (m, k), hp) Q := by
  refine Ev.step (j := 831) (s' := ([some (.retAddr 0), some (.ref 0), some (.ref 69), some (.ref 87), some (.int z), a5, a6], [.ref 0], (m, k), hp)) rfl rfl ?_
  refine Ev.step (j := 832) (s' := ([some (.retAddr 0), some (.ref 0), some (.ref 69), some (.ref 87), some (.int z), a5, a6], [.retAddr 0, .ref 0], (m, k), hp)) rfl rfl ?_
  refine Ev.step (j := 834) (s' := ([some (.retAddr 0), some (.ref 0), some (.ref 69), some (.ref 87), some (.int z), a5, a6], [.int z, .retAddr 0, .ref 0], (m, k), hp)) rfl rfl ?_
  refine bs_lit (k := 1) rfl rfl fun z235 hz235 => ?_
  refine bs_add rfl (by omega) (by omega) fun z236 hz236 => ?_
  refine ls_sld rfl (by omega) (by omega) ?_
  refine (show Ev _ 837 ([some (.retAddr 0), some (.ref 0), some (.ref 69), some (.ref 87), some (.int z), a5, a6], [.int (xs z236.toNatClampNeg), .ref 0], (m, k), hp) _ from ?_)
  refine bs_call (K := kq_X10_crosses_0df2a5) [.ref 0, .int (xs z236.toNatClampNeg)] [] rfl ct_X10_crosses_0df2a5 H rfl rfl rfl (bs_rcv (g := 10) H (bs_R.uq H (g := 10) rfl) (by decide) rfl) (ls_room (Nat.le_of_ble_eq_true rfl) (by omega) (by omega)) ?_ (sf_S_nil) fun r238 hp237 thp237 Hhp237 fhp237 ahp237 php237 => ?_
  · intro q k h
    match q, h with
    | 0, h => cases h; exact bs_jR (bs_R.uq H (g := 10) rfl)
    | 1, h => cases h; exact sf_j0
    | q + 2, h => cases h
  obtain ⟨z239, rfl⟩ := bs_anI ahp237
  refine (show Ev _ 840 ([some (.retAddr 0), some (.ref 0), some (.ref 69), some (.ref 87), some (.int z), a5, a6], [.int z239], (m + 0, k + 0), hp237) _ from ?_)
  refine Ev.step (j := 841) (s' := ([some (.retAddr 0), some (.ref 0), some (.ref 69), some (.ref 87), some (.int z), a5, a6], [], (m + 0, k + 0), hp237)) rfl rfl ?_
  refine Ev.step (j := 842) (s' := ([some (.retAddr 0), some (.ref 0), some (.ref 69), some (.ref 87), some (.int z), a5, a6], [.ref 69], (m + 0, k + 0), hp237)) rfl rfl ?_
  refine Ev.step (j := 843) (s' := ([some (.retAddr 0), some (.ref 0), some (.ref 69), some (.ref 87), some (.int z), a5, a6], [.retAddr 0, .ref 69], (m + 0, k + 0), hp237)) rfl rfl ?_
  refine Ev.step (j := 845) (s' := ([some (.retAddr 0), some (.ref 0), some (.ref 69), some (.ref 87), some (.int z), a5, a6], [.int z, .retAddr 0, .ref 69], (m + 0, k + 0), hp237)) rfl rfl ?_
  refine bs_lit (k := 1) rfl rfl fun z240 hz240 => ?_
  refine bs_add rfl (by omega) (by omega) fun z241 hz241 => ?_
  refine ls_sld rfl (by omega) (by omega) ?_
  refine (show Ev _ 848 ([some (.retAddr 0), some (.ref 0), some (.ref 69), some (.ref 87), some (.int z), a5, a6], [.int (xs z241.toNatClampNeg), .ref 69], (m + 0, k + 0), hp237) _ from ?_)
  refine bs_call (K := kq_X11_crosses_3d45d6) [.ref 69, .int (xs z241.toNatClampNeg)] [] rfl ct_X11_crosses_3d45d6 Hhp237 rfl rfl rfl (bs_rcv (g := 11) Hhp237 (bs_R.uq Hhp237 (g := 11) rfl) (by decide) rfl) (ls_room (Nat.le_of_ble_eq_true rfl) (by omega) (by omega)) ?_ (sf_S_nil) fun r243 hp242 thp242 Hhp242 fhp242 ahp242 php242 => ?_
  · intro q k h
    match q, h with
    | 0, h => cases h; exact bs_jR (bs_R.uq Hhp237 (g := 11) rfl)
    | 1, h => cases h; exact sf_j0
    | q + 2, h => cases h
  obtain ⟨z244, rfl⟩ := bs_anI ahp242
  refine (show Ev _ 851 ([some (.retAddr 0), some (.ref 0), some (.ref 69), some (.ref 87), some (.int z), a5, a6], [.int z244], (m + 0 + 0, k + 0 + 0), hp242) _ from ?_)
  refine Ev.step (j := 852) (s' := ([some (.retAddr 0), some (.ref 0), some (.ref 69), some (.ref 87), some (.int z), a5, a6], [], (m + 0 + 0, k + 0 + 0), hp242)) rfl rfl ?_
  refine Ev.step (j := 1440) (s' := ([some (.retAddr 0), some (.ref 0), some (.ref 69), some (.ref 87), some (.int z), a5, a6], [], (m + 0 + 0, k + 0 + 0), hp242)) rfl rfl ?_
  exact K _ _ _ _ _ _ Hhp242 True.intro (by omega) (by omega)
set_option maxRecDepth 100000 in
set_option maxHeartbeats 4000000 in
theorem op_comes {xs : Nat → Int32} {n : Nat} {z : Int32} {a5 a6 : Option Value} {m k : Nat} {hp : ab_H} {t : Nat → Nat} {Q : ab_O → Prop} (H : sf_h t hp) (hs : lw_eq hp) (hz0 : 0 ≤ z.toInt) (hz1 : z.toInt + 6 ≤ n) (hn : n ≤ 3072) (hm : m + 21 ≤ 601024) (hk : k + 410 ≤ 7293034) (K : lw_K xs n z m k Q) : Ev (LT xs n) 855 ([some (.retAddr 0), some (.ref 0), some (.ref 69), some (.ref 87), some (.int z), a5, a6], [], (m, k), hp) Q := by
  refine Ev.step (j := 856) (s' := ([some (.retAddr 0), some (.ref 0), some (.ref 69), some (.ref 87), some (.int z), a5, a6], [.ref 0], (m, k), hp)) rfl rfl ?_
  refine Ev.step (j := 857) (s' := ([some (.retAddr 0), some (.ref 0), some (.ref 69), some (.ref 87), some (.int z), a5, a6], [.retAddr 0, .ref 0], (m, k), hp)) rfl rfl ?_
  refine Ev.step (j := 859) (s' := ([some (.retAddr 0), some (.ref 0), some (.ref 69), some (.ref 87), some (.int z), a5, a6], [.int z, .retAddr 0, .ref 0], (m, k), hp)) rfl rfl ?_
  refine bs_lit (k := 1) rfl rfl fun z245 hz245 => ?_
  refine bs_add rfl (by omega) (by omega) fun z246 hz246 => ?_
  refine ls_sld rfl (by omega) (by omega) ?_
  refine (show Ev _ 862 ([some (.retAddr 0), some (.ref 0), some (.ref 69), some (.ref 87), some (.int z), a5, a6], [.int (xs z246.toNatClampNeg), .ref 0], (m, k), hp) _ from ?_)
  refine Ev.step (j := 863) (s' := ([some (.retAddr 0), some (.ref 0), some (.ref 69), some (.ref 87), some (.int z), a5, a6], [.retAddr 0, .int (xs z246.toNatClampNeg), .ref 0], (m, k), hp)) rfl rfl ?_
  refine Ev.step (j := 865) (s' := ([some (.retAddr 0), some (.ref 0), some (.ref 69), some (.ref 87), some (.int z), a5, a6], [.int z, .retAddr 0, .int (xs z246.toNatClampNeg), .ref 0], (m, k), hp)) rfl rfl ?_
  refine bs_lit (k := 2) rfl rfl fun z247 hz247 => ?_
  refine bs_add rfl (by omega) (by omega) fun z248 hz248 => ?_
  refine ls_sld rfl (by omega) (by omega) ?_
  refine (show Ev _ 868 ([some (.retAddr 0), some (.ref 0), some (.ref 69), some (.ref 87), some (.int z), a5, a6], [.int (xs z248.toNatClampNeg), .int (xs z246.toNatClampNeg), .ref 0], (m, k), hp) _ from ?_)
  refine bs_call (K := kq_X10_comes_57b5ea) [.ref 0, .int (xs z246.toNatClampNeg), .int (xs z248.toNatClampNeg)] [] rfl ct_X10_comes_57b5ea H rfl rfl rfl (bs_rcv (g := 10) H (bs_R.uq H (g := 10) rfl) (by decide) rfl) (ls_room (Nat.le_of_ble_eq_true rfl) (by omega) (by omega)) ?_ (sf_S_nil) fun r250 hp249 thp249 Hhp249 fhp249 ahp249 php249 => ?_
  · intro q k h
    match q, h with
    | 0, h => cases h; exact bs_jR (bs_R.uq H (g := 10) rfl)
    | 1, h => cases h; exact sf_j0
    | 2, h => cases h; exact sf_j0
    | q + 3, h => cases h
  obtain ⟨z251, rfl⟩ := bs_anI ahp249
  refine (show Ev _ 871 ([some (.retAddr 0), some (.ref 0), some (.ref 69), some (.ref 87), some (.int z), a5, a6], [.int z251], (m + 0, k + 0), hp249) _ from ?_)
  refine Ev.step (j := 872) (s' := ([some (.retAddr 0), some (.ref 0), some (.ref 69), some (.ref 87), some (.int z), a5, a6], [], (m + 0, k + 0), hp249)) rfl rfl ?_
  refine Ev.step (j := 873) (s' := ([some (.retAddr 0), some (.ref 0), some (.ref 69), some (.ref 87), some (.int z), a5, a6], [.ref 69], (m + 0, k + 0), hp249)) rfl rfl ?_
  refine Ev.step (j := 874) (s' := ([some (.retAddr 0), some (.ref 0), some (.ref 69), some (.ref 87), some (.int z), a5, a6], [.retAddr 0, .ref 69], (m + 0, k + 0), hp249)) rfl rfl ?_
  refine Ev.step (j := 876) (s' := ([some (.retAddr 0), some (.ref 0), some (.ref 69), some (.ref 87), some (.int z), a5, a6], [.int z, .retAddr 0, .ref 69], (m + 0, k + 0), hp249)) rfl rfl ?_
  refine bs_lit (k := 1) rfl rfl fun z252 hz252 => ?_
  refine bs_add rfl (by omega) (by omega) fun z253 hz253 => ?_
  refine ls_sld rfl (by omega) (by omega) ?_
  refine (show Ev _ 879 ([some (.retAddr 0), some (.ref 0), some (.ref 69), some (.ref 87), some (.int z), a5, a6], [.int (xs z253.toNatClampNeg), .ref 69], (m + 0, k + 0), hp249) _ from ?_)
  refine Ev.step (j := 880) (s' := ([some (.retAddr 0), some (.ref 0), some (.ref 69), some (.ref 87), some (.int z), a5, a6], [.retAddr 0, .int (xs z253.toNatClampNeg), .ref 69], (m + 0, k + 0), hp249)) rfl rfl ?_
  refine Ev.step (j := 882) (s' := ([some (.retAddr 0), some (.ref 0), some (.ref 69), some (.ref 87), some (.int z), a5, a6], [.int z, .retAddr 0, .int (xs z253.toNatClampNeg), .ref 69], (m + 0, k + 0), hp249)) rfl rfl ?_
  refine bs_lit (k := 2) rfl rfl fun z254 hz254 => ?_
  refine bs_add rfl (by omega) (by omega) fun z255 hz255 => ?_
  refine ls_sld rfl (by omega) (by omega) ?_
  refine (show Ev _ 885 ([some (.retAddr 0), some (.ref 0), some (.ref 69), some (.ref 87), some (.int z), a5, a6], [.int (xs z255.toNatClampNeg), .int (xs z253.toNatClampNeg), .ref 69], (m + 0, k + 0), hp249) _ from ?_)
  refine bs_call (K := kq_X11_comes_334faa) [.ref 69, .int (xs z253.toNatClampNeg), .int (xs z255.toNatClampNeg)] [] rfl ct_X11_comes_334faa Hhp249 rfl rfl rfl (bs_rcv (g := 11) Hhp249 (bs_R.uq Hhp249 (g := 11) rfl) (by decide) rfl) (ls_room (Nat.le_of_ble_eq_true rfl) (by omega) (by omega)) ?_ (sf_S_nil) fun r257 hp256 thp256 Hhp256 fhp256 ahp256 php256 => ?_
  · intro q k h
    match q, h with
    | 0, h => cases h; exact bs_jR (bs_R.uq Hhp249 (g := 11) rfl)
    | 1, h => cases h; exact sf_j0
    | 2, h => cases h; exact sf_j0
    | q + 3, h => cases h
  obtain ⟨z258, rfl⟩ := bs_anI ahp256
  refine (show Ev _ 888 ([some (.retAddr 0), some (.ref 0), some (.ref 69), some (.ref 87), some (.int z), a5, a6], [.int z258], (m + 0 + 0, k + 0 + 0), hp256) _ from ?_)
  refine Ev.step (j := 889) (s' := ([some (.retAddr 0), some (.ref 0), some (.ref 69), some (.ref 87), some (.int z), a5, a6], [], (m + 0 + 0, k + 0 + 0), hp256)) rfl rfl ?_
  refine Ev.step (j := 1440) (s' := ([some (.retAddr 0), some (.ref 0), some (.ref 69), some (.ref 87), some (.int z), a5, a6], [], (m + 0 + 0, k + 0 + 0), hp256)) rfl rfl ?_
  exact K _ _ _ _ _ _ Hhp256 True.intro (by omega) (by omega)
set_option maxRecDepth 100000 in
set_option maxHeartbeats 4000000 in
theorem op_without {xs : Nat → Int32} {n : Nat} {z : Int32} {a5 a6 : Option Value} {m k : Nat} {hp : ab_H} {t : Nat → Nat} {Q : ab_O → Prop} (H : sf_h t hp) (hs : lw_eq hp) (hz0 : 0 ≤ z.toInt) (hz1 : z.toInt + 6 ≤ n) (hn : n ≤ 3072) (hm : m + 21 ≤ 601024) (hk : k + 410 ≤ 7293034) (K : lw_K xs n z m k Q) : Ev (LT xs n) 892 ([some (.retAddr 0), some (.ref 0), some (.ref 69), some (.ref 87), some (.int z), a5, a6], [], (m, k), hp) Q := by
  refine Ev.step (j := 893) (s' := ([some (.retAddr 0), some (.ref 0), some (.ref 69), some (.ref 87), some (.int z), a5, a6], [.ref 0], (m, k), hp)) rfl rfl ?_
  refine Ev.step (j := 894) (s' := ([some (.retAddr 0), some (.ref 0), some (.ref 69), some (.ref 87), some (.int z), a5, a6], [.retAddr 0, .ref 0], (m, k), hp)) rfl rfl ?_
  refine Ev.step (j := 896) (s' := ([some (.retAddr 0), some (.ref 0), some (.ref 69), some (.ref 87), some (.int z), a5, a6], [.int z, .retAddr 0, .ref 0], (m, k), hp)) rfl rfl ?_
  refine bs_lit (k := 1) rfl rfl fun z259 hz259 => ?_
  refine bs_add rfl (by omega) (by omega) fun z260 hz260 => ?_
  refine ls_sld rfl (by omega) (by omega) ?_
  refine (show Ev _ 899 ([some (.retAddr 0), some (.ref 0), some (.ref 69), some (.ref 87), some (.int z), a5, a6], [.int (xs z260.toNatClampNeg), .ref 0], (m, k), hp) _ from ?_)
  refine Ev.step (j := 900) (s' := ([some (.retAddr 0), some (.ref 0), some (.ref 69), some (.ref 87), some (.int z), a5, a6], [.retAddr 0, .int (xs z260.toNatClampNeg), .ref 0], (m, k), hp)) rfl rfl ?_
  refine Ev.step (j := 902) (s' := ([some (.retAddr 0), some (.ref 0), some (.ref 69), some (.ref 87), some (.int z), a5, a6], [.int z, .retAddr 0, .int (xs z260.toNatClampNeg), .ref 0], (m, k), hp)) rfl rfl ?_
  refine bs_lit (k := 2) rfl rfl fun z261 hz261 => ?_
  refine bs_add rfl (by omega) (by omega) fun z262 hz262 => ?_
  refine ls_sld rfl (by omega) (by omega) ?_
  refine (show Ev _ 905 ([some (.retAddr 0), some (.ref 0), some (.ref 69), some (.ref 87), some (.int z), a5, a6], [.int (xs z262.toNatClampNeg), .int (xs z260.toNatClampNeg), .ref 0], (m, k), hp) _ from ?_)
  refine Ev.step (j := 906) (s' := ([some (.retAddr 0), some (.ref 0), some (.ref 69), some (.ref 87), some (.int z), a5, a6], [.retAddr 0, .int (xs z262.toNatClampNeg), .int (xs z260.toNatClampNeg), .ref 0], (m, k), hp)) rfl rfl ?_
  refine Ev.step (j := 908) (s' := ([some (.retAddr 0), some (.ref 0), some (.ref 69), some (.ref 87), some (.int z), a5, a6], [.int z, .retAddr 0, .int (xs z262.toNatClampNeg), .int (xs z260.toNatClampNeg), .ref 0], (m, k), hp)) rfl rfl ?_
  refine bs_lit (k := 3) rfl rfl fun z263 hz263 => ?_
  refine bs_add rfl (by omega) (by omega) fun z264 hz264 => ?_
  refine ls_sld rfl (by omega) (by omega) ?_
  refine (show Ev _ 911 ([some (.retAddr 0), some (.ref 0), some (.ref 69), some (.ref 87), some (.int z), a5, a6], [.int (xs z264.toNatClampNeg), .int (xs z262.toNatClampNeg), .int (xs z260.toNatClampNeg), .ref 0], (m, k), hp) _ from ?_)
  refine Ev.step (j := 912) (s' := ([some (.retAddr 0), some (.ref 0), some (.ref 69), some (.ref 87), some (.int z), a5, a6], [.retAddr 0, .int (xs z264.toNatClampNeg), .int (xs z262.toNatClampNeg), .int (xs z260.toNatClampNeg), .ref 0], (m, k), hp)) rfl rfl ?_
  refine Ev.step (j := 914) (s' := ([some (.retAddr 0), some (.ref 0), some (.ref 69), some (.ref 87), some (.int z), a5, a6], [.int z, .retAddr 0, .int (xs z264.toNatClampNeg), .int (xs z262.toNatClampNeg), .int (xs z260.toNatClampNeg), .ref 0], (m, k), hp)) rfl rfl ?_
  refine bs_lit (k := 4) rfl rfl fun z265 hz265 => ?_
  refine bs_add rfl (by omega) (by omega) fun z266 hz266 => ?_
  refine ls_sld rfl (by omega) (by omega) ?_
  refine (show Ev _ 917 ([some (.retAddr 0), some (.ref 0), some (.ref 69), some (.ref 87), some (.int z), a5, a6], [.int (xs z266.toNatClampNeg), .int (xs z264.toNatClampNeg), .int (xs z262.toNatClampNeg), .int (xs z260.toNatClampNeg), .ref 0], (m, k), hp) _ from ?_)
  refine bs_call (K := kq_X10_without_7e309e) [.ref 0, .int (xs z260.toNatClampNeg), .int (xs z262.toNatClampNeg), .int (xs z264.toNatClampNeg), .int (xs z266.toNatClampNeg)] [] rfl ct_X10_without_7e309e H rfl rfl rfl (bs_rcv (g := 10) H (bs_R.uq H (g := 10) rfl) (by decide) rfl) (ls_room (Nat.le_of_ble_eq_true rfl) (by omega) (by omega)) ?_ (sf_S_nil) fun r268 hp267 thp267 Hhp267 fhp267 ahp267 php267 => ?_
  · intro q k h
    match q, h with
    | 0, h => cases h; exact bs_jR (bs_R.uq H (g := 10) rfl)
    | 1, h => cases h; exact sf_j0
    | 2, h => cases h; exact sf_j0
    | 3, h => cases h; exact sf_j0
    | 4, h => cases h; exact sf_j0
    | q + 5, h => cases h
  obtain ⟨z269, rfl⟩ := bs_anI ahp267
  refine (show Ev _ 920 ([some (.retAddr 0), some (.ref 0), some (.ref 69), some (.ref 87), some (.int z), a5, a6], [.int z269], (m + 0, k + 0), hp267) _ from ?_)
  refine Ev.step (j := 921) (s' := ([some (.retAddr 0), some (.ref 0), some (.ref 69), some (.ref 87), some (.int z), a5, a6], [], (m + 0, k + 0), hp267)) rfl rfl ?_
  refine Ev.step (j := 922) (s' := ([some (.retAddr 0), some (.ref 0), some (.ref 69), some (.ref 87), some (.int z), a5, a6], [.ref 69], (m + 0, k + 0), hp267)) rfl rfl ?_
  refine Ev.step (j := 923) (s' := ([some (.retAddr 0), some (.ref 0), some (.ref 69), some (.ref 87), some (.int z), a5, a6], [.retAddr 0, .ref 69], (m + 0, k + 0), hp267)) rfl rfl ?_
  refine Ev.step (j := 925) (s' := ([some (.retAddr 0), some (.ref 0), some (.ref 69), some (.ref 87), some (.int z), a5, a6], [.int z, .retAddr 0, .ref 69], (m + 0, k + 0), hp267)) rfl rfl ?_
  refine bs_lit (k := 1) rfl rfl fun z270 hz270 => ?_
  refine bs_add rfl (by omega) (by omega) fun z271 hz271 => ?_
  refine ls_sld rfl (by omega) (by omega) ?_
  refine (show Ev _ 928 ([some (.retAddr 0), some (.ref 0), some (.ref 69), some (.ref 87), some (.int z), a5, a6], [.int (xs z271.toNatClampNeg), .ref 69], (m + 0, k + 0), hp267) _ from ?_)
  refine Ev.step (j := 929) (s' := ([some (.retAddr 0), some (.ref 0), some (.ref 69), some (.ref 87), some (.int z), a5, a6], [.retAddr 0, .int (xs z271.toNatClampNeg), .ref 69], (m + 0, k + 0), hp267)) rfl rfl ?_
  refine Ev.step (j := 931) (s' := ([some (.retAddr 0), some (.ref 0), some (.ref 69), some (.ref 87), some (.int z), a5, a6], [.int z, .retAddr 0, .int (xs z271.toNatClampNeg), .ref 69], (m + 0, k + 0), hp267)) rfl rfl ?_
  refine bs_lit (k := 2) rfl rfl fun z272 hz272 => ?_
  refine bs_add rfl (by omega) (by omega) fun z273 hz273 => ?_
  refine ls_sld rfl (by omega) (by omega) ?_
  refine (show Ev _ 934 ([some (.retAddr 0), some (.ref 0), some (.ref 69), some (.ref 87), some (.int z), a5, a6], [.int (xs z273.toNatClampNeg), .int (xs z271.toNatClampNeg), .ref 69], (m + 0, k + 0), hp267) _ from ?_)
  refine Ev.step (j := 935) (s' := ([some (.retAddr 0), some (.ref 0), some (.ref 69), some (.ref 87), some (.int z), a5, a6], [.retAddr 0, .int (xs z273.toNatClampNeg), .int (xs z271.toNatClampNeg), .ref 69], (m + 0, k + 0), hp267)) rfl rfl ?_
  refine Ev.step (j := 937) (s' := ([some (.retAddr 0), some (.ref 0), some (.ref 69), some (.ref 87), some (.int z), a5, a6], [.int z, .retAddr 0, .int (xs z273.toNatClampNeg), .int (xs z271.toNatClampNeg), .ref 69], (m + 0, k + 0), hp267)) rfl rfl ?_
  refine bs_lit (k := 3) rfl rfl fun z274 hz274 => ?_
  refine bs_add rfl (by omega) (by omega) fun z275 hz275 => ?_
  refine ls_sld rfl (by omega) (by omega) ?_
  refine (show Ev _ 940 ([some (.retAddr 0), some (.ref 0), some (.ref 69), some (.ref 87), some (.int z), a5, a6], [.int (xs z275.toNatClampNeg), .int (xs z273.toNatClampNeg), .int (xs z271.toNatClampNeg), .ref 69], (m + 0, k + 0), hp267) _ from ?_)
  refine Ev.step (j := 941) (s' := ([some (.retAddr 0), some (.ref 0), some (.ref 69), some (.ref 87), some (.int z), a5, a6], [.retAddr 0, .int (xs z275.toNatClampNeg), .int (xs z273.toNatClampNeg), .int (xs z271.toNatClampNeg), .ref 69], (m + 0, k + 0), hp267)) rfl rfl ?_
  refine Ev.step (j := 943) (s' := ([some (.retAddr 0), some (.ref 0), some (.ref 69), some (.ref 87), some (.int z), a5, a6], [.int z, .retAddr 0, .int (xs z275.toNatClampNeg), .int (xs z273.toNatClampNeg), .int (xs z271.toNatClampNeg), .ref 69], (m + 0, k + 0), hp267)) rfl rfl ?_
  refine bs_lit (k := 4) rfl rfl fun z276 hz276 => ?_
  refine bs_add rfl (by omega) (by omega) fun z277 hz277 => ?_
  refine ls_sld rfl (by omega) (by omega) ?_
  refine (show Ev _ 946 ([some (.retAddr 0), some (.ref 0), some (.ref 69), some (.ref 87), some (.int z), a5, a6], [.int (xs z277.toNatClampNeg), .int (xs z275.toNatClampNeg), .int (xs z273.toNatClampNeg), .int (xs z271.toNatClampNeg), .ref 69], (m + 0, k + 0), hp267) _ from ?_)
  refine bs_call (K := kq_X11_without_h) [.ref 69, .int (xs z271.toNatClampNeg), .int (xs z273.toNatClampNeg), .int (xs z275.toNatClampNeg), .int (xs z277.toNatClampNeg)] [] rfl ct_X11_without_h Hhp267 rfl rfl rfl (bs_rcv (g := 11) Hhp267 (bs_R.uq Hhp267 (g := 11) rfl) (by decide) rfl) (ls_room (Nat.le_of_ble_eq_true rfl) (by omega) (by omega)) ?_ (sf_S_nil) fun r279 hp278 thp278 Hhp278 fhp278 ahp278 php278 => ?_
  · intro q k h
    match q, h with
    | 0, h => cases h; exact bs_jR (bs_R.uq Hhp267 (g := 11) rfl)
    | 1, h => cases h; exact sf_j0
    | 2, h => cases h; exact sf_j0
    | 3, h => cases h; exact sf_j0
    | 4, h => cases h; exact sf_j0
    | q + 5, h => cases h
  obtain ⟨z280, rfl⟩ := bs_anI ahp278
  refine (show Ev _ 949 ([some (.retAddr 0), some (.ref 0), some (.ref 69), some (.ref 87), some (.int z), a5, a6], [.int z280], (m + 0 + 0, k + 0 + 0), hp278) _ from ?_)
  refine Ev.step (j := 950) (s' := ([some (.retAddr 0), some (.ref 0), some (.ref 69), some (.ref 87), some (.int z), a5, a6], [], (m + 0 + 0, k + 0 + 0), hp278)) rfl rfl ?_
  refine Ev.step (j := 1440) (s' := ([some (.retAddr 0), some (.ref 0), some (.ref 69), some (.ref 87), some (.int z), a5, a6], [], (m + 0 + 0, k + 0 + 0), hp278)) rfl rfl ?_
  exact K _ _ _ _ _ _ Hhp278 True.intro (by omega) (by omega)
set_option maxRecDepth 100000 in
set_option maxHeartbeats 4000000 in
theorem op_meet {xs : Nat → Int32} {n : Nat} {z : Int32} {a5 a6 : Option Value} {m k : Nat} {hp : ab_H} {t : Nat → Nat} {Q : ab_O → Prop} (H : sf_h t hp) (hs : lw_eq hp) (hz0 : 0 ≤ z.toInt) (hz1 : z.toInt + 6 ≤ n) (hn : n ≤ 3072) (hm : m + 21 ≤ 601024) (hk : k + 410 ≤ 7293034) (K : lw_K xs n z m k Q) : Ev (LT xs n) 953 ([some (.retAddr 0), some (.ref 0), some (.ref 69), some (.ref 87), some (.int z), a5, a6], [], (m, k), hp) Q := by
  refine Ev.step (j := 954) (s' := ([some (.retAddr 0), some (.ref 0), some (.ref 69), some (.ref 87), some (.int z), a5, a6], [.ref 0], (m, k), hp)) rfl rfl ?_
  refine Ev.step (j := 955) (s' := ([some (.retAddr 0), some (.ref 0), some (.ref 69), some (.ref 87), some (.int z), a5, a6], [.retAddr 0, .ref 0], (m, k), hp)) rfl rfl ?_
  refine Ev.step (j := 957) (s' := ([some (.retAddr 0), some (.ref 0), some (.ref 69), some (.ref 87), some (.int z), a5, a6], [.int z, .retAddr 0, .ref 0], (m, k), hp)) rfl rfl ?_
  refine bs_lit (k := 1) rfl rfl fun z281 hz281 => ?_
  refine bs_add rfl (by omega) (by omega) fun z282 hz282 => ?_
  refine ls_sld rfl (by omega) (by omega) ?_
  refine (show Ev _ 960 ([some (.retAddr 0), some (.ref 0), some (.ref 69), some (.ref 87), some (.int z), a5, a6], [.int (xs z282.toNatClampNeg), .ref 0], (m, k), hp) _ from ?_)
  refine Ev.step (j := 961) (s' := ([some (.retAddr 0), some (.ref 0), some (.ref 69), some (.ref 87), some (.int z), a5, a6], [.retAddr 0, .int (xs z282.toNatClampNeg), .ref 0], (m, k), hp)) rfl rfl ?_
  refine Ev.step (j := 963) (s' := ([some (.retAddr 0), some (.ref 0), some (.ref 69), some (.ref 87), some (.int z), a5, a6], [.int z, .retAddr 0, .int (xs z282.toNatClampNeg), .ref 0], (m, k), hp)) rfl rfl ?_
  refine bs_lit (k := 2) rfl rfl fun z283 hz283 => ?_
  refine bs_add rfl (by omega) (by omega) fun z284 hz284 => ?_
  refine ls_sld rfl (by omega) (by omega) ?_
  refine (show Ev _ 966 ([some (.retAddr 0), some (.ref 0), some (.ref 69), some (.ref 87), some (.int z), a5, a6], [.int (xs z284.toNatClampNeg), .int (xs z282.toNatClampNeg), .ref 0], (m, k), hp) _ from ?_)
  refine bs_call (K := kq_X10_meet_57b5ea) [.ref 0, .int (xs z282.toNatClampNeg), .int (xs z284.toNatClampNeg)] [] rfl ct_X10_meet_57b5ea H rfl rfl rfl (bs_rcv (g := 10) H (bs_R.uq H (g := 10) rfl) (by decide) rfl) (ls_room (Nat.le_of_ble_eq_true rfl) (by omega) (by omega)) ?_ (sf_S_nil) fun r286 hp285 thp285 Hhp285 fhp285 ahp285 php285 => ?_
  · intro q k h
    match q, h with
    | 0, h => cases h; exact bs_jR (bs_R.uq H (g := 10) rfl)
    | 1, h => cases h; exact sf_j0
    | 2, h => cases h; exact sf_j0
    | q + 3, h => cases h
  obtain ⟨z287, rfl⟩ := bs_anI ahp285
  refine (show Ev _ 969 ([some (.retAddr 0), some (.ref 0), some (.ref 69), some (.ref 87), some (.int z), a5, a6], [.int z287], (m + 0, k + 0), hp285) _ from ?_)
  refine Ev.step (j := 970) (s' := ([some (.retAddr 0), some (.ref 0), some (.ref 69), some (.ref 87), some (.int z), a5, a6], [], (m + 0, k + 0), hp285)) rfl rfl ?_
  refine Ev.step (j := 971) (s' := ([some (.retAddr 0), some (.ref 0), some (.ref 69), some (.ref 87), some (.int z), a5, a6], [.ref 69], (m + 0, k + 0), hp285)) rfl rfl ?_
  refine Ev.step (j := 972) (s' := ([some (.retAddr 0), some (.ref 0), some (.ref 69), some (.ref 87), some (.int z), a5, a6], [.retAddr 0, .ref 69], (m + 0, k + 0), hp285)) rfl rfl ?_
  refine Ev.step (j := 974) (s' := ([some (.retAddr 0), some (.ref 0), some (.ref 69), some (.ref 87), some (.int z), a5, a6], [.int z, .retAddr 0, .ref 69], (m + 0, k + 0), hp285)) rfl rfl ?_
  refine bs_lit (k := 1) rfl rfl fun z288 hz288 => ?_
  refine bs_add rfl (by omega) (by omega) fun z289 hz289 => ?_
  refine ls_sld rfl (by omega) (by omega) ?_
  refine (show Ev _ 977 ([some (.retAddr 0), some (.ref 0), some (.ref 69), some (.ref 87), some (.int z), a5, a6], [.int (xs z289.toNatClampNeg), .ref 69], (m + 0, k + 0), hp285) _ from ?_)
  refine Ev.step (j := 978) (s' := ([some (.retAddr 0), some (.ref 0), some (.ref 69), some (.ref 87), some (.int z), a5, a6], [.retAddr 0, .int (xs z289.toNatClampNeg), .ref 69], (m + 0, k + 0), hp285)) rfl rfl ?_
  refine Ev.step (j := 980) (s' := ([some (.retAddr 0), some (.ref 0), some (.ref 69), some (.ref 87), some (.int z), a5, a6], [.int z, .retAddr 0, .int (xs z289.toNatClampNeg), .ref 69], (m + 0, k + 0), hp285)) rfl rfl ?_
  refine bs_lit (k := 2) rfl rfl fun z290 hz290 => ?_
  refine bs_add rfl (by omega) (by omega) fun z291 hz291 => ?_
  refine ls_sld rfl (by omega) (by omega) ?_
  refine (show Ev _ 983 ([some (.retAddr 0), some (.ref 0), some (.ref 69), some (.ref 87), some (.int z), a5, a6], [.int (xs z291.toNatClampNeg), .int (xs z289.toNatClampNeg), .ref 69], (m + 0, k + 0), hp285) _ from ?_)
  refine bs_call (K := kq_X11_meet_h) [.ref 69, .int (xs z289.toNatClampNeg), .int (xs z291.toNatClampNeg)] [] rfl ct_X11_meet_h Hhp285 rfl rfl rfl (bs_rcv (g := 11) Hhp285 (bs_R.uq Hhp285 (g := 11) rfl) (by decide) rfl) (ls_room (Nat.le_of_ble_eq_true rfl) (by omega) (by omega)) ?_ (sf_S_nil) fun r293 hp292 thp292 Hhp292 fhp292 ahp292 php292 => ?_
  · intro q k h
    match q, h with
    | 0, h => cases h; exact bs_jR (bs_R.uq Hhp285 (g := 11) rfl)
    | 1, h => cases h; exact sf_j0
    | 2, h => cases h; exact sf_j0
    | q + 3, h => cases h
  obtain ⟨z294, rfl⟩ := bs_anI ahp292
  refine (show Ev _ 986 ([some (.retAddr 0), some (.ref 0), some (.ref 69), some (.ref 87), some (.int z), a5, a6], [.int z294], (m + 0 + 0, k + 0 + 0), hp292) _ from ?_)
  refine Ev.step (j := 987) (s' := ([some (.retAddr 0), some (.ref 0), some (.ref 69), some (.ref 87), some (.int z), a5, a6], [], (m + 0 + 0, k + 0 + 0), hp292)) rfl rfl ?_
  refine Ev.step (j := 1440) (s' := ([some (.retAddr 0), some (.ref 0), some (.ref 69), some (.ref 87), some (.int z), a5, a6], [], (m + 0 + 0, k + 0 + 0), hp292)) rfl rfl ?_
  exact K _ _ _ _ _ _ Hhp292 True.intro (by omega) (by omega)
set_option maxRecDepth 100000 in
set_option maxHeartbeats 4000000 in
theorem op_loads {xs : Nat → Int32} {n : Nat} {z : Int32} {a5 a6 : Option Value} {m k : Nat} {hp : ab_H} {t : Nat → Nat} {Q : ab_O → Prop} (H : sf_h t hp) (hs : lw_eq hp) (hz0 : 0 ≤ z.toInt) (hz1 : z.toInt + 6 ≤ n) (hn : n ≤ 3072) (hm : m + 21 ≤ 601024) (hk : k + 410 ≤ 7293034) (K : lw_K xs n z m k Q) : Ev (LT xs n) 990 ([some (.retAddr 0), some (.ref 0), some (.ref 69), some (.ref 87), some (.int z), a5, a6], [], (m, k), hp) Q := by
  refine Ev.step (j := 991) (s' := ([some (.retAddr 0), some (.ref 0), some (.ref 69), some (.ref 87), some (.int z), a5, a6], [.ref 0], (m, k), hp)) rfl rfl ?_
  refine Ev.step (j := 992) (s' := ([some (.retAddr 0), some (.ref 0), some (.ref 69), some (.ref 87), some (.int z), a5, a6], [.retAddr 0, .ref 0], (m, k), hp)) rfl rfl ?_
  refine Ev.step (j := 994) (s' := ([some (.retAddr 0), some (.ref 0), some (.ref 69), some (.ref 87), some (.int z), a5, a6], [.int z, .retAddr 0, .ref 0], (m, k), hp)) rfl rfl ?_
  refine bs_lit (k := 1) rfl rfl fun z295 hz295 => ?_
  refine bs_add rfl (by omega) (by omega) fun z296 hz296 => ?_
  refine ls_sld rfl (by omega) (by omega) ?_
  refine (show Ev _ 997 ([some (.retAddr 0), some (.ref 0), some (.ref 69), some (.ref 87), some (.int z), a5, a6], [.int (xs z296.toNatClampNeg), .ref 0], (m, k), hp) _ from ?_)
  refine bs_call (K := kq_X10_loads_0df2a5) [.ref 0, .int (xs z296.toNatClampNeg)] [] rfl ct_X10_loads_0df2a5 H rfl rfl rfl (bs_rcv (g := 10) H (bs_R.uq H (g := 10) rfl) (by decide) rfl) (ls_room (Nat.le_of_ble_eq_true rfl) (by omega) (by omega)) ?_ (sf_S_nil) fun r298 hp297 thp297 Hhp297 fhp297 ahp297 php297 => ?_
  · intro q k h
    match q, h with
    | 0, h => cases h; exact bs_jR (bs_R.uq H (g := 10) rfl)
    | 1, h => cases h; exact sf_j0
    | q + 2, h => cases h
  obtain ⟨z299, rfl⟩ := bs_anI ahp297
  refine (show Ev _ 1000 ([some (.retAddr 0), some (.ref 0), some (.ref 69), some (.ref 87), some (.int z), a5, a6], [.int z299], (m + 0, k + 0), hp297) _ from ?_)
  refine Ev.step (j := 1001) (s' := ([some (.retAddr 0), some (.ref 0), some (.ref 69), some (.ref 87), some (.int z), a5, a6], [], (m + 0, k + 0), hp297)) rfl rfl ?_
  refine Ev.step (j := 1002) (s' := ([some (.retAddr 0), some (.ref 0), some (.ref 69), some (.ref 87), some (.int z), a5, a6], [.ref 69], (m + 0, k + 0), hp297)) rfl rfl ?_
  refine Ev.step (j := 1003) (s' := ([some (.retAddr 0), some (.ref 0), some (.ref 69), some (.ref 87), some (.int z), a5, a6], [.retAddr 0, .ref 69], (m + 0, k + 0), hp297)) rfl rfl ?_
  refine Ev.step (j := 1005) (s' := ([some (.retAddr 0), some (.ref 0), some (.ref 69), some (.ref 87), some (.int z), a5, a6], [.int z, .retAddr 0, .ref 69], (m + 0, k + 0), hp297)) rfl rfl ?_
  refine bs_lit (k := 1) rfl rfl fun z300 hz300 => ?_
  refine bs_add rfl (by omega) (by omega) fun z301 hz301 => ?_
  refine ls_sld rfl (by omega) (by omega) ?_
  refine (show Ev _ 1008 ([some (.retAddr 0), some (.ref 0), some (.ref 69), some (.ref 87), some (.int z), a5, a6], [.int (xs z301.toNatClampNeg), .ref 69], (m + 0, k + 0), hp297) _ from ?_)
  refine bs_call (K := kq_X11_loads_3d45d6) [.ref 69, .int (xs z301.toNatClampNeg)] [] rfl ct_X11_loads_3d45d6 Hhp297 rfl rfl rfl (bs_rcv (g := 11) Hhp297 (bs_R.uq Hhp297 (g := 11) rfl) (by decide) rfl) (ls_room (Nat.le_of_ble_eq_true rfl) (by omega) (by omega)) ?_ (sf_S_nil) fun r303 hp302 thp302 Hhp302 fhp302 ahp302 php302 => ?_
  · intro q k h
    match q, h with
    | 0, h => cases h; exact bs_jR (bs_R.uq Hhp297 (g := 11) rfl)
    | 1, h => cases h; exact sf_j0
    | q + 2, h => cases h
  obtain ⟨z304, rfl⟩ := bs_anI ahp302
  refine (show Ev _ 1011 ([some (.retAddr 0), some (.ref 0), some (.ref 69), some (.ref 87), some (.int z), a5, a6], [.int z304], (m + 0 + 0, k + 0 + 0), hp302) _ from ?_)
  refine Ev.step (j := 1012) (s' := ([some (.retAddr 0), some (.ref 0), some (.ref 69), some (.ref 87), some (.int z), a5, a6], [], (m + 0 + 0, k + 0 + 0), hp302)) rfl rfl ?_
  refine Ev.step (j := 1440) (s' := ([some (.retAddr 0), some (.ref 0), some (.ref 69), some (.ref 87), some (.int z), a5, a6], [], (m + 0 + 0, k + 0 + 0), hp302)) rfl rfl ?_
  exact K _ _ _ _ _ _ Hhp302 True.intro (by omega) (by omega)
set_option maxRecDepth 100000 in
set_option maxHeartbeats 4000000 in
theorem op_which {xs : Nat → Int32} {n : Nat} {z : Int32} {a5 a6 : Option Value} {m k : Nat} {hp : ab_H} {t : Nat → Nat} {Q : ab_O → Prop} (H : sf_h t hp) (hs : lw_eq hp) (hz0 : 0 ≤ z.toInt) (hz1 : z.toInt + 6 ≤ n) (hn : n ≤ 3072) (hm : m + 21 ≤ 601024) (hk : k + 410 ≤ 7293034) (K : lw_K xs n z m k Q) : Ev (LT xs n) 1015 ([some (.retAddr 0), some (.ref 0), some (.ref 69), some (.ref 87), some (.int z), a5, a6], [], (m, k), hp) Q := by
  refine Ev.step (j := 1016) (s' := ([some (.retAddr 0), some (.ref 0), some (.ref 69), some (.ref 87), some (.int z), a5, a6], [.ref 0], (m, k), hp)) rfl rfl ?_
  refine bs_call (K := kq_X10_which_z) [.ref 0] [] rfl ct_X10_which_z H rfl rfl rfl (bs_rcv (g := 10) H (bs_R.uq H (g := 10) rfl) (by decide) rfl) (ls_room (Nat.le_of_ble_eq_true rfl) (by omega) (by omega)) ?_ (sf_S_nil) fun r306 hp305 thp305 Hhp305 fhp305 ahp305 php305 => ?_
  · intro q k h
    match q, h with
    | 0, h => cases h; exact bs_jR (bs_R.uq H (g := 10) rfl)
    | q + 1, h => cases h
  obtain ⟨z307, rfl⟩ := bs_anI ahp305
  refine (show Ev _ 1019 ([some (.retAddr 0), some (.ref 0), some (.ref 69), some (.ref 87), some (.int z), a5, a6], [.int z307], (m + 0, k + 0), hp305) _ from ?_)
  refine Ev.step (j := 1020) (s' := ([some (.retAddr 0), some (.ref 0), some (.ref 69), some (.ref 87), some (.int z), a5, a6], [], (m + 0, k + 0), hp305)) rfl rfl ?_
  refine Ev.step (j := 1021) (s' := ([some (.retAddr 0), some (.ref 0), some (.ref 69), some (.ref 87), some (.int z), a5, a6], [.ref 69], (m + 0, k + 0), hp305)) rfl rfl ?_
  refine bs_call (K := kq_X11_which_z) [.ref 69] [] rfl ct_X11_which_z Hhp305 rfl rfl rfl (bs_rcv (g := 11) Hhp305 (bs_R.uq Hhp305 (g := 11) rfl) (by decide) rfl) (ls_room (Nat.le_of_ble_eq_true rfl) (by omega) (by omega)) ?_ (sf_S_nil) fun r309 hp308 thp308 Hhp308 fhp308 ahp308 php308 => ?_
  · intro q k h
    match q, h with
    | 0, h => cases h; exact bs_jR (bs_R.uq Hhp305 (g := 11) rfl)
    | q + 1, h => cases h
  obtain ⟨z310, rfl⟩ := bs_anI ahp308
  refine (show Ev _ 1024 ([some (.retAddr 0), some (.ref 0), some (.ref 69), some (.ref 87), some (.int z), a5, a6], [.int z310], (m + 0 + 0, k + 0 + 0), hp308) _ from ?_)
  refine Ev.step (j := 1025) (s' := ([some (.retAddr 0), some (.ref 0), some (.ref 69), some (.ref 87), some (.int z), a5, a6], [], (m + 0 + 0, k + 0 + 0), hp308)) rfl rfl ?_
  refine Ev.step (j := 1440) (s' := ([some (.retAddr 0), some (.ref 0), some (.ref 69), some (.ref 87), some (.int z), a5, a6], [], (m + 0 + 0, k + 0 + 0), hp308)) rfl rfl ?_
  exact K _ _ _ _ _ _ Hhp308 True.intro (by omega) (by omega)
set_option maxRecDepth 100000 in
set_option maxHeartbeats 4000000 in
theorem op_settles {xs : Nat → Int32} {n : Nat} {z : Int32} {a5 a6 : Option Value} {m k : Nat} {hp : ab_H} {t : Nat → Nat} {Q : ab_O → Prop} (H : sf_h t hp) (hs : lw_eq hp) (hz0 : 0 ≤ z.toInt) (hz1 : z.toInt + 6 ≤ n) (hn : n ≤ 3072) (hm : m + 21 ≤ 601024) (hk : k + 410 ≤ 7293034) (K : lw_K xs n z m k Q) : Ev (LT xs n) 1028 ([some (.retAddr 0), some (.ref 0), some (.ref 69), some (.ref 87), some (.int z), a5, a6], [], (m, k), hp) Q := by
  refine Ev.step (j := 1029) (s' := ([some (.retAddr 0), some (.ref 0), some (.ref 69), some (.ref 87), some (.int z), a5, a6], [.ref 0], (m, k), hp)) rfl rfl ?_
  refine bs_call (K := kq_X10_settles_4c18a7) [.ref 0] [] rfl ct_X10_settles_4c18a7 H rfl rfl rfl (bs_rcv (g := 10) H (bs_R.uq H (g := 10) rfl) (by decide) rfl) (ls_room (Nat.le_of_ble_eq_true rfl) (by omega) (by omega)) ?_ (sf_S_nil) fun r312 hp311 thp311 Hhp311 fhp311 ahp311 php311 => ?_
  · intro q k h
    match q, h with
    | 0, h => cases h; exact bs_jR (bs_R.uq H (g := 10) rfl)
    | q + 1, h => cases h
  obtain ⟨z313, rfl⟩ := bs_anI ahp311
  refine (show Ev _ 1032 ([some (.retAddr 0), some (.ref 0), some (.ref 69), some (.ref 87), some (.int z), a5, a6], [.int z313], (m + 0, k + 0), hp311) _ from ?_)
  refine Ev.step (j := 1033) (s' := ([some (.retAddr 0), some (.ref 0), some (.ref 69), some (.ref 87), some (.int z), a5, a6], [], (m + 0, k + 0), hp311)) rfl rfl ?_
  refine Ev.step (j := 1034) (s' := ([some (.retAddr 0), some (.ref 0), some (.ref 69), some (.ref 87), some (.int z), a5, a6], [.ref 69], (m + 0, k + 0), hp311)) rfl rfl ?_
  refine bs_call (K := kq_X11_settles_h) [.ref 69] [] rfl ct_X11_settles_h Hhp311 rfl rfl rfl (bs_rcv (g := 11) Hhp311 (bs_R.uq Hhp311 (g := 11) rfl) (by decide) rfl) (ls_room (Nat.le_of_ble_eq_true rfl) (by omega) (by omega)) ?_ (sf_S_nil) fun r315 hp314 thp314 Hhp314 fhp314 ahp314 php314 => ?_
  · intro q k h
    match q, h with
    | 0, h => cases h; exact bs_jR (bs_R.uq Hhp311 (g := 11) rfl)
    | q + 1, h => cases h
  obtain ⟨z316, rfl⟩ := bs_anI ahp314
  refine (show Ev _ 1037 ([some (.retAddr 0), some (.ref 0), some (.ref 69), some (.ref 87), some (.int z), a5, a6], [.int z316], (m + 0 + 0, k + 0 + 0), hp314) _ from ?_)
  refine Ev.step (j := 1038) (s' := ([some (.retAddr 0), some (.ref 0), some (.ref 69), some (.ref 87), some (.int z), a5, a6], [], (m + 0 + 0, k + 0 + 0), hp314)) rfl rfl ?_
  refine Ev.step (j := 1440) (s' := ([some (.retAddr 0), some (.ref 0), some (.ref 69), some (.ref 87), some (.int z), a5, a6], [], (m + 0 + 0, k + 0 + 0), hp314)) rfl rfl ?_
  exact K _ _ _ _ _ _ Hhp314 True.intro (by omega) (by omega)
set_option maxRecDepth 100000 in
set_option maxHeartbeats 4000000 in
theorem op_hunger {xs : Nat → Int32} {n : Nat} {z : Int32} {a5 a6 : Option Value} {m k : Nat} {hp : ab_H} {t : Nat → Nat} {Q : ab_O → Prop} (H : sf_h t hp) (hs : lw_eq hp) (hz0 : 0 ≤ z.toInt) (hz1 : z.toInt + 6 ≤ n) (hn : n ≤ 3072) (hm : m + 21 ≤ 601024) (hk : k + 410 ≤ 7293034) (K : lw_K xs n z m k Q) : Ev (LT xs n) 1041 ([some (.retAddr 0), some (.ref 0), some (.ref 69), some (.ref 87), some (.int z), a5, a6], [], (m, k), hp) Q := by
  refine Ev.step (j := 1042) (s' := ([some (.retAddr 0), some (.ref 0), some (.ref 69), some (.ref 87), some (.int z), a5, a6], [.ref 0], (m, k), hp)) rfl rfl ?_
  refine Ev.step (j := 1043) (s' := ([some (.retAddr 0), some (.ref 0), some (.ref 69), some (.ref 87), some (.int z), a5, a6], [.retAddr 0, .ref 0], (m, k), hp)) rfl rfl ?_
  refine Ev.step (j := 1045) (s' := ([some (.retAddr 0), some (.ref 0), some (.ref 69), some (.ref 87), some (.int z), a5, a6], [.int z, .retAddr 0, .ref 0], (m, k), hp)) rfl rfl ?_
  refine bs_lit (k := 1) rfl rfl fun z317 hz317 => ?_
  refine bs_add rfl (by omega) (by omega) fun z318 hz318 => ?_
  refine ls_sld rfl (by omega) (by omega) ?_
  refine (show Ev _ 1048 ([some (.retAddr 0), some (.ref 0), some (.ref 69), some (.ref 87), some (.int z), a5, a6], [.int (xs z318.toNatClampNeg), .ref 0], (m, k), hp) _ from ?_)
  refine Ev.step (j := 1049) (s' := ([some (.retAddr 0), some (.ref 0), some (.ref 69), some (.ref 87), some (.int z), a5, a6], [.retAddr 0, .int (xs z318.toNatClampNeg), .ref 0], (m, k), hp)) rfl rfl ?_
  refine Ev.step (j := 1051) (s' := ([some (.retAddr 0), some (.ref 0), some (.ref 69), some (.ref 87), some (.int z), a5, a6], [.int z, .retAddr 0, .int (xs z318.toNatClampNeg), .ref 0], (m, k), hp)) rfl rfl ?_
  refine bs_lit (k := 2) rfl rfl fun z319 hz319 => ?_
  refine bs_add rfl (by omega) (by omega) fun z320 hz320 => ?_
  refine ls_sld rfl (by omega) (by omega) ?_
  refine (show Ev _ 1054 ([some (.retAddr 0), some (.ref 0), some (.ref 69), some (.ref 87), some (.int z), a5, a6], [.int (xs z320.toNatClampNeg), .int (xs z318.toNatClampNeg), .ref 0], (m, k), hp) _ from ?_)
  refine Ev.step (j := 1055) (s' := ([some (.retAddr 0), some (.ref 0), some (.ref 69), some (.ref 87), some (.int z), a5, a6], [.retAddr 0, .int (xs z320.toNatClampNeg), .int (xs z318.toNatClampNeg), .ref 0], (m, k), hp)) rfl rfl ?_
  refine Ev.step (j := 1057) (s' := ([some (.retAddr 0), some (.ref 0), some (.ref 69), some (.ref 87), some (.int z), a5, a6], [.int z, .retAddr 0, .int (xs z320.toNatClampNeg), .int (xs z318.toNatClampNeg), .ref 0], (m, k), hp)) rfl rfl ?_
  refine bs_lit (k := 3) rfl rfl fun z321 hz321 => ?_
  refine bs_add rfl (by omega) (by omega) fun z322 hz322 => ?_
  refine ls_sld rfl (by omega) (by omega) ?_
  refine (show Ev _ 1060 ([some (.retAddr 0), some (.ref 0), some (.ref 69), some (.ref 87), some (.int z), a5, a6], [.int (xs z322.toNatClampNeg), .int (xs z320.toNatClampNeg), .int (xs z318.toNatClampNeg), .ref 0], (m, k), hp) _ from ?_)
  refine bs_call (K := kq_X10_hunger_7e6f69) [.ref 0, .int (xs z318.toNatClampNeg), .int (xs z320.toNatClampNeg), .int (xs z322.toNatClampNeg)] [] rfl ct_X10_hunger_7e6f69 H rfl rfl rfl (bs_rcv (g := 10) H (bs_R.uq H (g := 10) rfl) (by decide) rfl) (ls_room (Nat.le_of_ble_eq_true rfl) (by omega) (by omega)) ?_ (sf_S_nil) fun r324 hp323 thp323 Hhp323 fhp323 ahp323 php323 => ?_
  · intro q k h
    match q, h with
    | 0, h => cases h; exact bs_jR (bs_R.uq H (g := 10) rfl)
    | 1, h => cases h; exact sf_j0
    | 2, h => cases h; exact sf_j0
    | 3, h => cases h; exact sf_j0
    | q + 4, h => cases h
  obtain ⟨z325, rfl⟩ := bs_anI ahp323
  refine (show Ev _ 1063 ([some (.retAddr 0), some (.ref 0), some (.ref 69), some (.ref 87), some (.int z), a5, a6], [.int z325], (m + 0, k + 0), hp323) _ from ?_)
  refine Ev.step (j := 1064) (s' := ([some (.retAddr 0), some (.ref 0), some (.ref 69), some (.ref 87), some (.int z), a5, a6], [], (m + 0, k + 0), hp323)) rfl rfl ?_
  refine Ev.step (j := 1065) (s' := ([some (.retAddr 0), some (.ref 0), some (.ref 69), some (.ref 87), some (.int z), a5, a6], [.ref 69], (m + 0, k + 0), hp323)) rfl rfl ?_
  refine Ev.step (j := 1066) (s' := ([some (.retAddr 0), some (.ref 0), some (.ref 69), some (.ref 87), some (.int z), a5, a6], [.retAddr 0, .ref 69], (m + 0, k + 0), hp323)) rfl rfl ?_
  refine Ev.step (j := 1068) (s' := ([some (.retAddr 0), some (.ref 0), some (.ref 69), some (.ref 87), some (.int z), a5, a6], [.int z, .retAddr 0, .ref 69], (m + 0, k + 0), hp323)) rfl rfl ?_
  refine bs_lit (k := 1) rfl rfl fun z326 hz326 => ?_
  refine bs_add rfl (by omega) (by omega) fun z327 hz327 => ?_
  refine ls_sld rfl (by omega) (by omega) ?_
  refine (show Ev _ 1071 ([some (.retAddr 0), some (.ref 0), some (.ref 69), some (.ref 87), some (.int z), a5, a6], [.int (xs z327.toNatClampNeg), .ref 69], (m + 0, k + 0), hp323) _ from ?_)
  refine Ev.step (j := 1072) (s' := ([some (.retAddr 0), some (.ref 0), some (.ref 69), some (.ref 87), some (.int z), a5, a6], [.retAddr 0, .int (xs z327.toNatClampNeg), .ref 69], (m + 0, k + 0), hp323)) rfl rfl ?_
  refine Ev.step (j := 1074) (s' := ([some (.retAddr 0), some (.ref 0), some (.ref 69), some (.ref 87), some (.int z), a5, a6], [.int z, .retAddr 0, .int (xs z327.toNatClampNeg), .ref 69], (m + 0, k + 0), hp323)) rfl rfl ?_
  refine bs_lit (k := 2) rfl rfl fun z328 hz328 => ?_
  refine bs_add rfl (by omega) (by omega) fun z329 hz329 => ?_
  refine ls_sld rfl (by omega) (by omega) ?_
  refine (show Ev _ 1077 ([some (.retAddr 0), some (.ref 0), some (.ref 69), some (.ref 87), some (.int z), a5, a6], [.int (xs z329.toNatClampNeg), .int (xs z327.toNatClampNeg), .ref 69], (m + 0, k + 0), hp323) _ from ?_)
  refine Ev.step (j := 1078) (s' := ([some (.retAddr 0), some (.ref 0), some (.ref 69), some (.ref 87), some (.int z), a5, a6], [.retAddr 0, .int (xs z329.toNatClampNeg), .int (xs z327.toNatClampNeg), .ref 69], (m + 0, k + 0), hp323)) rfl rfl ?_
  refine Ev.step (j := 1080) (s' := ([some (.retAddr 0), some (.ref 0), some (.ref 69), some (.ref 87), some (.int z), a5, a6], [.int z, .retAddr 0, .int (xs z329.toNatClampNeg), .int (xs z327.toNatClampNeg), .ref 69], (m + 0, k + 0), hp323)) rfl rfl ?_
  refine bs_lit (k := 3) rfl rfl fun z330 hz330 => ?_
  refine bs_add rfl (by omega) (by omega) fun z331 hz331 => ?_
  refine ls_sld rfl (by omega) (by omega) ?_
  refine (show Ev _ 1083 ([some (.retAddr 0), some (.ref 0), some (.ref 69), some (.ref 87), some (.int z), a5, a6], [.int (xs z331.toNatClampNeg), .int (xs z329.toNatClampNeg), .int (xs z327.toNatClampNeg), .ref 69], (m + 0, k + 0), hp323) _ from ?_)
  refine bs_call (K := kq_X11_hunger_3518ea) [.ref 69, .int (xs z327.toNatClampNeg), .int (xs z329.toNatClampNeg), .int (xs z331.toNatClampNeg)] [] rfl ct_X11_hunger_3518ea Hhp323 rfl rfl rfl (bs_rcv (g := 11) Hhp323 (bs_R.uq Hhp323 (g := 11) rfl) (by decide) rfl) (ls_room (Nat.le_of_ble_eq_true rfl) (by omega) (by omega)) ?_ (sf_S_nil) fun r333 hp332 thp332 Hhp332 fhp332 ahp332 php332 => ?_
  · intro q k h
    match q, h with
    | 0, h => cases h; exact bs_jR (bs_R.uq Hhp323 (g := 11) rfl)
    | 1, h => cases h; exact sf_j0
    | 2, h => cases h; exact sf_j0
    | 3, h => cases h; exact sf_j0
    | q + 4, h => cases h
  obtain ⟨z334, rfl⟩ := bs_anI ahp332
  refine (show Ev _ 1086 ([some (.retAddr 0), some (.ref 0), some (.ref 69), some (.ref 87), some (.int z), a5, a6], [.int z334], (m + 0 + 0, k + 0 + 0), hp332) _ from ?_)
  refine Ev.step (j := 1087) (s' := ([some (.retAddr 0), some (.ref 0), some (.ref 69), some (.ref 87), some (.int z), a5, a6], [], (m + 0 + 0, k + 0 + 0), hp332)) rfl rfl ?_
  refine Ev.step (j := 1440) (s' := ([some (.retAddr 0), some (.ref 0), some (.ref 69), some (.ref 87), some (.int z), a5, a6], [], (m + 0 + 0, k + 0 + 0), hp332)) rfl rfl ?_
  exact K _ _ _ _ _ _ Hhp332 True.intro (by omega) (by omega)
set_option maxRecDepth 100000 in
set_option maxHeartbeats 4000000 in
theorem op_prices {xs : Nat → Int32} {n : Nat} {z : Int32} {a5 a6 : Option Value} {m k : Nat} {hp : ab_H} {t : Nat → Nat} {Q : ab_O → Prop} (H : sf_h t hp) (hs : lw_eq hp) (hz0 : 0 ≤ z.toInt) (hz1 : z.toInt + 6 ≤ n) (hn : n ≤ 3072) (hm : m + 21 ≤ 601024) (hk : k + 410 ≤ 7293034) (K : lw_K xs n z m k Q) : Ev (LT xs n) 1090 ([some (.retAddr 0), some (.ref 0), some (.ref 69), some (.ref 87), some (.int z), a5, a6], [], (m, k), hp) Q := by
  refine Ev.step (j := 1091) (s' := ([some (.retAddr 0), some (.ref 0), some (.ref 69), some (.ref 87), some (.int z), a5, a6], [.ref 0], (m, k), hp)) rfl rfl ?_
  refine bs_call (K := kq_X10_prices_4c18a7) [.ref 0] [] rfl ct_X10_prices_4c18a7 H rfl rfl rfl (bs_rcv (g := 10) H (bs_R.uq H (g := 10) rfl) (by decide) rfl) (ls_room (Nat.le_of_ble_eq_true rfl) (by omega) (by omega)) ?_ (sf_S_nil) fun r336 hp335 thp335 Hhp335 fhp335 ahp335 php335 => ?_
  · intro q k h
    match q, h with
    | 0, h => cases h; exact bs_jR (bs_R.uq H (g := 10) rfl)
    | q + 1, h => cases h
  obtain ⟨z337, rfl⟩ := bs_anI ahp335
  refine (show Ev _ 1094 ([some (.retAddr 0), some (.ref 0), some (.ref 69), some (.ref 87), some (.int z), a5, a6], [.int z337], (m + 0, k + 0), hp335) _ from ?_)
  refine Ev.step (j := 1095) (s' := ([some (.retAddr 0), some (.ref 0), some (.ref 69), some (.ref 87), some (.int z), a5, a6], [], (m + 0, k + 0), hp335)) rfl rfl ?_
  refine Ev.step (j := 1096) (s' := ([some (.retAddr 0), some (.ref 0), some (.ref 69), some (.ref 87), some (.int z), a5, a6], [.ref 69], (m + 0, k + 0), hp335)) rfl rfl ?_
  refine bs_call (K := kq_X11_prices_6afe8b) [.ref 69] [] rfl ct_X11_prices_6afe8b Hhp335 rfl rfl rfl (bs_rcv (g := 11) Hhp335 (bs_R.uq Hhp335 (g := 11) rfl) (by decide) rfl) (ls_room (Nat.le_of_ble_eq_true rfl) (by omega) (by omega)) ?_ (sf_S_nil) fun r339 hp338 thp338 Hhp338 fhp338 ahp338 php338 => ?_
  · intro q k h
    match q, h with
    | 0, h => cases h; exact bs_jR (bs_R.uq Hhp335 (g := 11) rfl)
    | q + 1, h => cases h
  obtain ⟨z340, rfl⟩ := bs_anI ahp338
  refine (show Ev _ 1099 ([some (.retAddr 0), some (.ref 0), some (.ref 69), some (.ref 87), some (.int z), a5, a6], [.int z340], (m + 0 + 0, k + 0 + 0), hp338) _ from ?_)
  refine Ev.step (j := 1100) (s' := ([some (.retAddr 0), some (.ref 0), some (.ref 69), some (.ref 87), some (.int z), a5, a6], [], (m + 0 + 0, k + 0 + 0), hp338)) rfl rfl ?_
  refine Ev.step (j := 1440) (s' := ([some (.retAddr 0), some (.ref 0), some (.ref 69), some (.ref 87), some (.int z), a5, a6], [], (m + 0 + 0, k + 0 + 0), hp338)) rfl rfl ?_
  exact K _ _ _ _ _ _ Hhp338 True.intro (by omega) (by omega)
