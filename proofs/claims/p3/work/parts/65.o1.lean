set_option maxRecDepth 100000 in
set_option maxHeartbeats 4000000 in
theorem op_undo {xs : Nat → Int32} {n : Nat} {z : Int32} {a5 a6 : Option Value} {m k : Nat} {hp : ab_H} {t : Nat → Nat} {Q : ab_O → Prop} (H : sf_h t hp) (hs : lw_eq hp) (hz0 : 0 ≤ z.toInt) (hz1 : z.toInt + 6 ≤ n) (hn : n ≤ 3072) (hm : m + 21 ≤ 601024) (hk : k + 410 ≤ 7293034) (K : lw_K xs n z m k Q) : Ev (LT xs n) 729 ([some (.retAddr 0), some (.ref 0), some (.ref 69), some (.ref 87), some (.int z), a5, a6], [], (m, k), hp) Q := by
  refine Ev.step (j := 730) (s' := ([some (.retAddr 0), some (.ref 0), some (.ref 69), some (.ref 87), some (.int z), a5, a6], [.ref 0], (m, k), hp)) rfl rfl ?_
  refine bs_call (K := kq_X10_undo_4c18a7) [.ref 0] [] rfl ct_X10_undo_4c18a7 H rfl rfl rfl (bs_rcv (g := 10) H (bs_R.uq H (g := 10) rfl) (by decide) rfl) (ls_room (Nat.le_of_ble_eq_true rfl) (by omega) (by omega)) ?_ (sf_S_nil) fun r218 hp217 thp217 Hhp217 fhp217 ahp217 php217 => ?_
  · intro q k h
    match q, h with
    | 0, h => cases h; exact bs_jR (bs_R.uq H (g := 10) rfl)
    | q + 1, h => cases h
  obtain ⟨z219, rfl⟩ := bs_anI ahp217
  have E220 := lw_keep H fhp217 rfl rfl hs
  refine (show Ev _ 733 ([some (.retAddr 0), some (.ref 0), some (.ref 69), some (.ref 87), some (.int z), a5, a6], [.int z219], (m + 0, k + 0), hp217) _ from ?_)
  refine Ev.step (j := 734) (s' := ([some (.retAddr 0), some (.ref 0), some (.ref 69), some (.ref 87), some (.int z), a5, a6], [], (m + 0, k + 0), hp217)) rfl rfl ?_
  refine Ev.step (j := 735) (s' := ([some (.retAddr 0), some (.ref 0), some (.ref 69), some (.ref 87), some (.int z), a5, a6], [.ref 69], (m + 0, k + 0), hp217)) rfl rfl ?_
  refine bs_call (K := kq_X11_undo_h) [.ref 69] [] rfl ct_X11_undo_h Hhp217 rfl rfl rfl (bs_rcv (g := 11) Hhp217 (bs_R.uq Hhp217 (g := 11) rfl) (by decide) rfl) (ls_room (Nat.le_of_ble_eq_true rfl) (by omega) (by omega)) ?_ (sf_S_nil) fun r222 hp221 thp221 Hhp221 fhp221 ahp221 php221 => ?_
  · intro q k h
    match q, h with
    | 0, h => cases h; exact bs_jR (bs_R.uq Hhp217 (g := 11) rfl)
    | q + 1, h => cases h
  obtain ⟨z223, rfl⟩ := bs_anI ahp221
  have E224 := lw_keep Hhp217 fhp221 rfl rfl E220
  refine (show Ev _ 738 ([some (.retAddr 0), some (.ref 0), some (.ref 69), some (.ref 87), some (.int z), a5, a6], [.int z223], (m + 0 + 0, k + 0 + 0), hp221) _ from ?_)
  refine Ev.step (j := 739) (s' := ([some (.retAddr 0), some (.ref 0), some (.ref 69), some (.ref 87), some (.int z), a5, a6], [], (m + 0 + 0, k + 0 + 0), hp221)) rfl rfl ?_
  refine Ev.step (j := 1440) (s' := ([some (.retAddr 0), some (.ref 0), some (.ref 69), some (.ref 87), some (.int z), a5, a6], [], (m + 0 + 0, k + 0 + 0), hp221)) rfl rfl ?_
  exact K _ _ _ _ _ _ Hhp221 E224 (by omega) (by omega)
set_option maxRecDepth 100000 in
set_option maxHeartbeats 4000000 in
theorem op_lacks {xs : Nat → Int32} {n : Nat} {z : Int32} {a5 a6 : Option Value} {m k : Nat} {hp : ab_H} {t : Nat → Nat} {Q : ab_O → Prop} (H : sf_h t hp) (hs : lw_eq hp) (hz0 : 0 ≤ z.toInt) (hz1 : z.toInt + 6 ≤ n) (hn : n ≤ 3072) (hm : m + 21 ≤ 601024) (hk : k + 410 ≤ 7293034) (K : lw_K xs n z m k Q) : Ev (LT xs n) 742 ([some (.retAddr 0), some (.ref 0), some (.ref 69), some (.ref 87), some (.int z), a5, a6], [], (m, k), hp) Q := by
  refine Ev.step (j := 743) (s' := ([some (.retAddr 0), some (.ref 0), some (.ref 69), some (.ref 87), some (.int z), a5, a6], [.ref 0], (m, k), hp)) rfl rfl ?_
  refine Ev.step (j := 744) (s' := ([some (.retAddr 0), some (.ref 0), some (.ref 69), some (.ref 87), some (.int z), a5, a6], [.retAddr 0, .ref 0], (m, k), hp)) rfl rfl ?_
  refine Ev.step (j := 746) (s' := ([some (.retAddr 0), some (.ref 0), some (.ref 69), some (.ref 87), some (.int z), a5, a6], [.int z, .retAddr 0, .ref 0], (m, k), hp)) rfl rfl ?_
  refine bs_lit (k := 1) rfl rfl fun z225 hz225 => ?_
  refine bs_add rfl (by omega) (by omega) fun z226 hz226 => ?_
  refine ls_sld rfl (by omega) (by omega) ?_
  refine (show Ev _ 749 ([some (.retAddr 0), some (.ref 0), some (.ref 69), some (.ref 87), some (.int z), a5, a6], [.int (xs z226.toNatClampNeg), .ref 0], (m, k), hp) _ from ?_)
  refine bs_call (K := kq_X10_lacks_0df2a5) [.ref 0, .int (xs z226.toNatClampNeg)] [] rfl ct_X10_lacks_0df2a5 H rfl rfl rfl (bs_rcv (g := 10) H (bs_R.uq H (g := 10) rfl) (by decide) rfl) (ls_room (Nat.le_of_ble_eq_true rfl) (by omega) (by omega)) ?_ (sf_S_nil) fun r228 hp227 thp227 Hhp227 fhp227 ahp227 php227 => ?_
  · intro q k h
    match q, h with
    | 0, h => cases h; exact bs_jR (bs_R.uq H (g := 10) rfl)
    | 1, h => cases h; exact sf_j0
    | q + 2, h => cases h
  obtain ⟨z229, rfl⟩ := bs_anI ahp227
  have E230 := lw_keep H fhp227 rfl rfl hs
  refine (show Ev _ 752 ([some (.retAddr 0), some (.ref 0), some (.ref 69), some (.ref 87), some (.int z), a5, a6], [.int z229], (m + 0, k + 0), hp227) _ from ?_)
  refine Ev.step (j := 753) (s' := ([some (.retAddr 0), some (.ref 0), some (.ref 69), some (.ref 87), some (.int z), a5, a6], [], (m + 0, k + 0), hp227)) rfl rfl ?_
  refine Ev.step (j := 754) (s' := ([some (.retAddr 0), some (.ref 0), some (.ref 69), some (.ref 87), some (.int z), a5, a6], [.ref 69], (m + 0, k + 0), hp227)) rfl rfl ?_
  refine Ev.step (j := 755) (s' := ([some (.retAddr 0), some (.ref 0), some (.ref 69), some (.ref 87), some (.int z), a5, a6], [.retAddr 0, .ref 69], (m + 0, k + 0), hp227)) rfl rfl ?_
  refine Ev.step (j := 757) (s' := ([some (.retAddr 0), some (.ref 0), some (.ref 69), some (.ref 87), some (.int z), a5, a6], [.int z, .retAddr 0, .ref 69], (m + 0, k + 0), hp227)) rfl rfl ?_
  refine bs_lit (k := 1) rfl rfl fun z231 hz231 => ?_
  refine bs_add rfl (by omega) (by omega) fun z232 hz232 => ?_
  refine ls_sld rfl (by omega) (by omega) ?_
  refine (show Ev _ 760 ([some (.retAddr 0), some (.ref 0), some (.ref 69), some (.ref 87), some (.int z), a5, a6], [.int (xs z232.toNatClampNeg), .ref 69], (m + 0, k + 0), hp227) _ from ?_)
  refine bs_call (K := kq_X11_lacks_3d45d6) [.ref 69, .int (xs z232.toNatClampNeg)] [] rfl ct_X11_lacks_3d45d6 Hhp227 rfl rfl rfl (bs_rcv (g := 11) Hhp227 (bs_R.uq Hhp227 (g := 11) rfl) (by decide) rfl) (ls_room (Nat.le_of_ble_eq_true rfl) (by omega) (by omega)) ?_ (sf_S_nil) fun r234 hp233 thp233 Hhp233 fhp233 ahp233 php233 => ?_
  · intro q k h
    match q, h with
    | 0, h => cases h; exact bs_jR (bs_R.uq Hhp227 (g := 11) rfl)
    | 1, h => cases h; exact sf_j0
    | q + 2, h => cases h
  obtain ⟨z235, rfl⟩ := bs_anI ahp233
  have E236 := lw_keep Hhp227 fhp233 rfl rfl E230
  refine (show Ev _ 763 ([some (.retAddr 0), some (.ref 0), some (.ref 69), some (.ref 87), some (.int z), a5, a6], [.int z235], (m + 0 + 0, k + 0 + 0), hp233) _ from ?_)
  refine Ev.step (j := 764) (s' := ([some (.retAddr 0), some (.ref 0), some (.ref 69), some (.ref 87), some (.int z), a5, a6], [], (m + 0 + 0, k + 0 + 0), hp233)) rfl rfl ?_
  refine Ev.step (j := 1440) (s' := ([some (.retAddr 0), some (.ref 0), some (.ref 69), some (.ref 87), some (.int z), a5, a6], [], (m + 0 + 0, k + 0 + 0), hp233)) rfl rfl ?_
  exact K _ _ _ _ _ _ Hhp233 E236 (by omega) (by omega)
set_option maxRecDepth 100000 in
set_option maxHeartbeats 4000000 in
theorem op_falses {xs : Nat → Int32} {n : Nat} {z : Int32} {a5 a6 : Option Value} {m k : Nat} {hp : ab_H} {t : Nat → Nat} {Q : ab_O → Prop} (H : sf_h t hp) (hs : lw_eq hp) (hz0 : 0 ≤ z.toInt) (hz1 : z.toInt + 6 ≤ n) (hn : n ≤ 3072) (hm : m + 21 ≤ 601024) (hk : k + 410 ≤ 7293034) (K : lw_K xs n z m k Q) : Ev (LT xs n) 767 ([some (.retAddr 0), some (.ref 0), some (.ref 69), some (.ref 87), some (.int z), a5, a6], [], (m, k), hp) Q := by
  refine Ev.step (j := 768) (s' := ([some (.retAddr 0), some (.ref 0), some (.ref 69), some (.ref 87), some (.int z), a5, a6], [.ref 0], (m, k), hp)) rfl rfl ?_
  refine Ev.step (j := 769) (s' := ([some (.retAddr 0), some (.ref 0), some (.ref 69), some (.ref 87), some (.int z), a5, a6], [.retAddr 0, .ref 0], (m, k), hp)) rfl rfl ?_
  refine Ev.step (j := 771) (s' := ([some (.retAddr 0), some (.ref 0), some (.ref 69), some (.ref 87), some (.int z), a5, a6], [.int z, .retAddr 0, .ref 0], (m, k), hp)) rfl rfl ?_
  refine bs_lit (k := 1) rfl rfl fun z237 hz237 => ?_
  refine bs_add rfl (by omega) (by omega) fun z238 hz238 => ?_
  refine ls_sld rfl (by omega) (by omega) ?_
  refine (show Ev _ 774 ([some (.retAddr 0), some (.ref 0), some (.ref 69), some (.ref 87), some (.int z), a5, a6], [.int (xs z238.toNatClampNeg), .ref 0], (m, k), hp) _ from ?_)
  refine bs_call (K := kq_X10_falses_0df2a5) [.ref 0, .int (xs z238.toNatClampNeg)] [] rfl ct_X10_falses_0df2a5 H rfl rfl rfl (bs_rcv (g := 10) H (bs_R.uq H (g := 10) rfl) (by decide) rfl) (ls_room (Nat.le_of_ble_eq_true rfl) (by omega) (by omega)) ?_ (sf_S_nil) fun r240 hp239 thp239 Hhp239 fhp239 ahp239 php239 => ?_
  · intro q k h
    match q, h with
    | 0, h => cases h; exact bs_jR (bs_R.uq H (g := 10) rfl)
    | 1, h => cases h; exact sf_j0
    | q + 2, h => cases h
  obtain ⟨z241, rfl⟩ := bs_anI ahp239
  have E242 := lw_keep H fhp239 rfl rfl hs
  refine (show Ev _ 777 ([some (.retAddr 0), some (.ref 0), some (.ref 69), some (.ref 87), some (.int z), a5, a6], [.int z241], (m + 0, k + 0), hp239) _ from ?_)
  refine Ev.step (j := 778) (s' := ([some (.retAddr 0), some (.ref 0), some (.ref 69), some (.ref 87), some (.int z), a5, a6], [], (m + 0, k + 0), hp239)) rfl rfl ?_
  refine Ev.step (j := 779) (s' := ([some (.retAddr 0), some (.ref 0), some (.ref 69), some (.ref 87), some (.int z), a5, a6], [.ref 69], (m + 0, k + 0), hp239)) rfl rfl ?_
  refine Ev.step (j := 780) (s' := ([some (.retAddr 0), some (.ref 0), some (.ref 69), some (.ref 87), some (.int z), a5, a6], [.retAddr 0, .ref 69], (m + 0, k + 0), hp239)) rfl rfl ?_
  refine Ev.step (j := 782) (s' := ([some (.retAddr 0), some (.ref 0), some (.ref 69), some (.ref 87), some (.int z), a5, a6], [.int z, .retAddr 0, .ref 69], (m + 0, k + 0), hp239)) rfl rfl ?_
  refine bs_lit (k := 1) rfl rfl fun z243 hz243 => ?_
  refine bs_add rfl (by omega) (by omega) fun z244 hz244 => ?_
  refine ls_sld rfl (by omega) (by omega) ?_
  refine (show Ev _ 785 ([some (.retAddr 0), some (.ref 0), some (.ref 69), some (.ref 87), some (.int z), a5, a6], [.int (xs z244.toNatClampNeg), .ref 69], (m + 0, k + 0), hp239) _ from ?_)
  refine bs_call (K := kq_X11_falses_3d45d6) [.ref 69, .int (xs z244.toNatClampNeg)] [] rfl ct_X11_falses_3d45d6 Hhp239 rfl rfl rfl (bs_rcv (g := 11) Hhp239 (bs_R.uq Hhp239 (g := 11) rfl) (by decide) rfl) (ls_room (Nat.le_of_ble_eq_true rfl) (by omega) (by omega)) ?_ (sf_S_nil) fun r246 hp245 thp245 Hhp245 fhp245 ahp245 php245 => ?_
  · intro q k h
    match q, h with
    | 0, h => cases h; exact bs_jR (bs_R.uq Hhp239 (g := 11) rfl)
    | 1, h => cases h; exact sf_j0
    | q + 2, h => cases h
  obtain ⟨z247, rfl⟩ := bs_anI ahp245
  have E248 := lw_keep Hhp239 fhp245 rfl rfl E242
  refine (show Ev _ 788 ([some (.retAddr 0), some (.ref 0), some (.ref 69), some (.ref 87), some (.int z), a5, a6], [.int z247], (m + 0 + 0, k + 0 + 0), hp245) _ from ?_)
  refine Ev.step (j := 789) (s' := ([some (.retAddr 0), some (.ref 0), some (.ref 69), some (.ref 87), some (.int z), a5, a6], [], (m + 0 + 0, k + 0 + 0), hp245)) rfl rfl ?_
  refine Ev.step (j := 1440) (s' := ([some (.retAddr 0), some (.ref 0), some (.ref 69), some (.ref 87), some (.int z), a5, a6], [], (m + 0 + 0, k + 0 + 0), hp245)) rfl rfl ?_
  exact K _ _ _ _ _ _ Hhp245 E248 (by omega) (by omega)
set_option maxRecDepth 100000 in
set_option maxHeartbeats 4000000 in
theorem op_going {xs : Nat → Int32} {n : Nat} {z : Int32} {a5 a6 : Option Value} {m k : Nat} {hp : ab_H} {t : Nat → Nat} {Q : ab_O → Prop} (H : sf_h t hp) (hs : lw_eq hp) (hz0 : 0 ≤ z.toInt) (hz1 : z.toInt + 6 ≤ n) (hn : n ≤ 3072) (hm : m + 21 ≤ 601024) (hk : k + 410 ≤ 7293034) (K : lw_K xs n z m k Q) : Ev (LT xs n) 792 ([some (.retAddr 0), some (.ref 0), some (.ref 69), some (.ref 87), some (.int z), a5, a6], [], (m, k), hp) Q := by
  refine Ev.step (j := 793) (s' := ([some (.retAddr 0), some (.ref 0), some (.ref 69), some (.ref 87), some (.int z), a5, a6], [.ref 0], (m, k), hp)) rfl rfl ?_
  refine bs_call (K := kq_X10_going_4c18a7) [.ref 0] [] rfl ct_X10_going_4c18a7 H rfl rfl rfl (bs_rcv (g := 10) H (bs_R.uq H (g := 10) rfl) (by decide) rfl) (ls_room (Nat.le_of_ble_eq_true rfl) (by omega) (by omega)) ?_ (sf_S_nil) fun r250 hp249 thp249 Hhp249 fhp249 ahp249 php249 => ?_
  · intro q k h
    match q, h with
    | 0, h => cases h; exact bs_jR (bs_R.uq H (g := 10) rfl)
    | q + 1, h => cases h
  obtain ⟨z251, rfl⟩ := bs_anI ahp249
  have E252 := lw_keep H fhp249 rfl rfl hs
  refine (show Ev _ 796 ([some (.retAddr 0), some (.ref 0), some (.ref 69), some (.ref 87), some (.int z), a5, a6], [.int z251], (m + 0, k + 0), hp249) _ from ?_)
  refine Ev.step (j := 797) (s' := ([some (.retAddr 0), some (.ref 0), some (.ref 69), some (.ref 87), some (.int z), a5, a6], [], (m + 0, k + 0), hp249)) rfl rfl ?_
  refine Ev.step (j := 798) (s' := ([some (.retAddr 0), some (.ref 0), some (.ref 69), some (.ref 87), some (.int z), a5, a6], [.ref 69], (m + 0, k + 0), hp249)) rfl rfl ?_
  refine bs_call (K := kq_X11_going_6afe8b) [.ref 69] [] rfl ct_X11_going_6afe8b Hhp249 rfl rfl rfl (bs_rcv (g := 11) Hhp249 (bs_R.uq Hhp249 (g := 11) rfl) (by decide) rfl) (ls_room (Nat.le_of_ble_eq_true rfl) (by omega) (by omega)) ?_ (sf_S_nil) fun r254 hp253 thp253 Hhp253 fhp253 ahp253 php253 => ?_
  · intro q k h
    match q, h with
    | 0, h => cases h; exact bs_jR (bs_R.uq Hhp249 (g := 11) rfl)
    | q + 1, h => cases h
  obtain ⟨z255, rfl⟩ := bs_anI ahp253
  have E256 := lw_keep Hhp249 fhp253 rfl rfl E252
  refine (show Ev _ 801 ([some (.retAddr 0), some (.ref 0), some (.ref 69), some (.ref 87), some (.int z), a5, a6], [.int z255], (m + 0 + 0, k + 0 + 0), hp253) _ from ?_)
  refine Ev.step (j := 802) (s' := ([some (.retAddr 0), some (.ref 0), some (.ref 69), some (.ref 87), some (.int z), a5, a6], [], (m + 0 + 0, k + 0 + 0), hp253)) rfl rfl ?_
  refine Ev.step (j := 1440) (s' := ([some (.retAddr 0), some (.ref 0), some (.ref 69), some (.ref 87), some (.int z), a5, a6], [], (m + 0 + 0, k + 0 + 0), hp253)) rfl rfl ?_
  exact K _ _ _ _ _ _ Hhp253 E256 (by omega) (by omega)
set_option maxRecDepth 100000 in
set_option maxHeartbeats 4000000 in
theorem op_goes {xs : Nat → Int32} {n : Nat} {z : Int32} {a5 a6 : Option Value} {m k : Nat} {hp : ab_H} {t : Nat → Nat} {Q : ab_O → Prop} (H : sf_h t hp) (hs : lw_eq hp) (hz0 : 0 ≤ z.toInt) (hz1 : z.toInt + 6 ≤ n) (hn : n ≤ 3072) (hm : m + 21 ≤ 601024) (hk : k + 410 ≤ 7293034) (K : lw_K xs n z m k Q) : Ev (LT xs n) 805 ([some (.retAddr 0), some (.ref 0), some (.ref 69), some (.ref 87), some (.int z), a5, a6], [], (m, k), hp) Q := by
  refine Ev.step (j := 806) (s' := ([some (.retAddr 0), some (.ref 0), some (.ref 69), some (.ref 87), some (.int z), a5, a6], [.ref 0], (m, k), hp)) rfl rfl ?_
  refine Ev.step (j := 807) (s' := ([some (.retAddr 0), some (.ref 0), some (.ref 69), some (.ref 87), some (.int z), a5, a6], [.retAddr 0, .ref 0], (m, k), hp)) rfl rfl ?_
  refine Ev.step (j := 809) (s' := ([some (.retAddr 0), some (.ref 0), some (.ref 69), some (.ref 87), some (.int z), a5, a6], [.int z, .retAddr 0, .ref 0], (m, k), hp)) rfl rfl ?_
  refine bs_lit (k := 1) rfl rfl fun z257 hz257 => ?_
  refine bs_add rfl (by omega) (by omega) fun z258 hz258 => ?_
  refine ls_sld rfl (by omega) (by omega) ?_
  refine (show Ev _ 812 ([some (.retAddr 0), some (.ref 0), some (.ref 69), some (.ref 87), some (.int z), a5, a6], [.int (xs z258.toNatClampNeg), .ref 0], (m, k), hp) _ from ?_)
  refine bs_call (K := kq_X10_goes_0df2a5) [.ref 0, .int (xs z258.toNatClampNeg)] [] rfl ct_X10_goes_0df2a5 H rfl rfl rfl (bs_rcv (g := 10) H (bs_R.uq H (g := 10) rfl) (by decide) rfl) (ls_room (Nat.le_of_ble_eq_true rfl) (by omega) (by omega)) ?_ (sf_S_nil) fun r260 hp259 thp259 Hhp259 fhp259 ahp259 php259 => ?_
  · intro q k h
    match q, h with
    | 0, h => cases h; exact bs_jR (bs_R.uq H (g := 10) rfl)
    | 1, h => cases h; exact sf_j0
    | q + 2, h => cases h
  obtain ⟨z261, rfl⟩ := bs_anI ahp259
  have E262 := lw_keep H fhp259 rfl rfl hs
  refine (show Ev _ 815 ([some (.retAddr 0), some (.ref 0), some (.ref 69), some (.ref 87), some (.int z), a5, a6], [.int z261], (m + 0, k + 0), hp259) _ from ?_)
  refine Ev.step (j := 816) (s' := ([some (.retAddr 0), some (.ref 0), some (.ref 69), some (.ref 87), some (.int z), a5, a6], [], (m + 0, k + 0), hp259)) rfl rfl ?_
  refine Ev.step (j := 817) (s' := ([some (.retAddr 0), some (.ref 0), some (.ref 69), some (.ref 87), some (.int z), a5, a6], [.ref 69], (m + 0, k + 0), hp259)) rfl rfl ?_
  refine Ev.step (j := 818) (s' := ([some (.retAddr 0), some (.ref 0), some (.ref 69), some (.ref 87), some (.int z), a5, a6], [.retAddr 0, .ref 69], (m + 0, k + 0), hp259)) rfl rfl ?_
  refine Ev.step (j := 820) (s' := ([some (.retAddr 0), some (.ref 0), some (.ref 69), some (.ref 87), some (.int z), a5, a6], [.int z, .retAddr 0, .ref 69], (m + 0, k + 0), hp259)) rfl rfl ?_
  refine bs_lit (k := 1) rfl rfl fun z263 hz263 => ?_
  refine bs_add rfl (by omega) (by omega) fun z264 hz264 => ?_
  refine ls_sld rfl (by omega) (by omega) ?_
  refine (show Ev _ 823 ([some (.retAddr 0), some (.ref 0), some (.ref 69), some (.ref 87), some (.int z), a5, a6], [.int (xs z264.toNatClampNeg), .ref 69], (m + 0, k + 0), hp259) _ from ?_)
  refine bs_call (K := kq_X11_goes_h) [.ref 69, .int (xs z264.toNatClampNeg)] [] rfl ct_X11_goes_h Hhp259 rfl rfl rfl (bs_rcv (g := 11) Hhp259 (bs_R.uq Hhp259 (g := 11) rfl) (by decide) rfl) (ls_room (Nat.le_of_ble_eq_true rfl) (by omega) (by omega)) ?_ (sf_S_nil) fun r266 hp265 thp265 Hhp265 fhp265 ahp265 php265 => ?_
  · intro q k h
    match q, h with
    | 0, h => cases h; exact bs_jR (bs_R.uq Hhp259 (g := 11) rfl)
    | 1, h => cases h; exact sf_j0
    | q + 2, h => cases h
  obtain ⟨z267, rfl⟩ := bs_anI ahp265
  have E268 := lw_keep Hhp259 fhp265 rfl rfl E262
  refine (show Ev _ 826 ([some (.retAddr 0), some (.ref 0), some (.ref 69), some (.ref 87), some (.int z), a5, a6], [.int z267], (m + 0 + 0, k + 0 + 0), hp265) _ from ?_)
  refine Ev.step (j := 827) (s' := ([some (.retAddr 0), some (.ref 0), some (.ref 69), some (.ref 87), some (.int z), a5, a6], [], (m + 0 + 0, k + 0 + 0), hp265)) rfl rfl ?_
  refine Ev.step (j := 1440) (s' := ([some (.retAddr 0), some (.ref 0), some (.ref 69), some (.ref 87), some (.int z), a5, a6], [], (m + 0 + 0, k + 0 + 0), hp265)) rfl rfl ?_
  exact K _ _ _ _ _ _ Hhp265 E268 (by omega) (by omega)
set_option maxRecDepth 100000 in
set_option maxHeartbeats 4000000 in
theorem op_crosses {xs : Nat → Int32} {n : Nat} {z : Int32} {a5 a6 : Option Value} {m k : Nat} {hp : ab_H} {t : Nat → Nat} {Q : ab_O → Prop} (H : sf_h t hp) (hs : lw_eq hp) (hz0 : 0 ≤ z.toInt) (hz1 : z.toInt + 6 ≤ n) (hn : n ≤ 3072) (hm : m + 21 ≤ 601024) (hk : k + 410 ≤ 7293034) (K : lw_K xs n z m k Q) : Ev (LT xs n) 830 ([some (.retAddr 0), some (.ref 0), some (.ref 69), some (.ref 87), some (.int z), a5, a6], [], (m, k), hp) Q := by
  refine Ev.step (j := 831) (s' := ([some (.retAddr 0), some (.ref 0), some (.ref 69), some (.ref 87), some (.int z), a5, a6], [.ref 0], (m, k), hp)) rfl rfl ?_
  refine Ev.step (j := 832) (s' := ([some (.retAddr 0), some (.ref 0), some (.ref 69), some (.ref 87), some (.int z), a5, a6], [.retAddr 0, .ref 0], (m, k), hp)) rfl rfl ?_
  refine Ev.step (j := 834) (s' := ([some (.retAddr 0), some (.ref 0), some (.ref 69), some (.ref 87), some (.int z), a5, a6], [.int z, .retAddr 0, .ref 0], (m, k), hp)) rfl rfl ?_
  refine bs_lit (k := 1) rfl rfl fun z269 hz269 => ?_
  refine bs_add rfl (by omega) (by omega) fun z270 hz270 => ?_
  refine ls_sld rfl (by omega) (by omega) ?_
  refine (show Ev _ 837 ([some (.retAddr 0), some (.ref 0), some (.ref 69), some (.ref 87), some (.int z), a5, a6], [.int (xs z270.toNatClampNeg), .ref 0], (m, k), hp) _ from ?_)
  refine bs_call (K := kq_X10_crosses_0df2a5) [.ref 0, .int (xs z270.toNatClampNeg)] [] rfl ct_X10_crosses_0df2a5 H rfl rfl rfl (bs_rcv (g := 10) H (bs_R.uq H (g := 10) rfl) (by decide) rfl) (ls_room (Nat.le_of_ble_eq_true rfl) (by omega) (by omega)) ?_ (sf_S_nil) fun r272 hp271 thp271 Hhp271 fhp271 ahp271 php271 => ?_
  · intro q k h
    match q, h with
    | 0, h => cases h; exact bs_jR (bs_R.uq H (g := 10) rfl)
    | 1, h => cases h; exact sf_j0
    | q + 2, h => cases h
  obtain ⟨z273, rfl⟩ := bs_anI ahp271
  have E274 := lw_keep H fhp271 rfl rfl hs
  refine (show Ev _ 840 ([some (.retAddr 0), some (.ref 0), some (.ref 69), some (.ref 87), some (.int z), a5, a6], [.int z273], (m + 0, k + 0), hp271) _ from ?_)
  refine Ev.step (j := 841) (s' := ([some (.retAddr 0), some (.ref 0), some (.ref 69), some (.ref 87), some (.int z), a5, a6], [], (m + 0, k + 0), hp271)) rfl rfl ?_
  refine Ev.step (j := 842) (s' := ([some (.retAddr 0), some (.ref 0), some (.ref 69), some (.ref 87), some (.int z), a5, a6], [.ref 69], (m + 0, k + 0), hp271)) rfl rfl ?_
  refine Ev.step (j := 843) (s' := ([some (.retAddr 0), some (.ref 0), some (.ref 69), some (.ref 87), some (.int z), a5, a6], [.retAddr 0, .ref 69], (m + 0, k + 0), hp271)) rfl rfl ?_
  refine Ev.step (j := 845) (s' := ([some (.retAddr 0), some (.ref 0), some (.ref 69), some (.ref 87), some (.int z), a5, a6], [.int z, .retAddr 0, .ref 69], (m + 0, k + 0), hp271)) rfl rfl ?_
  refine bs_lit (k := 1) rfl rfl fun z275 hz275 => ?_
  refine bs_add rfl (by omega) (by omega) fun z276 hz276 => ?_
  refine ls_sld rfl (by omega) (by omega) ?_
  refine (show Ev _ 848 ([some (.retAddr 0), some (.ref 0), some (.ref 69), some (.ref 87), some (.int z), a5, a6], [.int (xs z276.toNatClampNeg), .ref 69], (m + 0, k + 0), hp271) _ from ?_)
  refine bs_call (K := kq_X11_crosses_3d45d6) [.ref 69, .int (xs z276.toNatClampNeg)] [] rfl ct_X11_crosses_3d45d6 Hhp271 rfl rfl rfl (bs_rcv (g := 11) Hhp271 (bs_R.uq Hhp271 (g := 11) rfl) (by decide) rfl) (ls_room (Nat.le_of_ble_eq_true rfl) (by omega) (by omega)) ?_ (sf_S_nil) fun r278 hp277 thp277 Hhp277 fhp277 ahp277 php277 => ?_
  · intro q k h
    match q, h with
    | 0, h => cases h; exact bs_jR (bs_R.uq Hhp271 (g := 11) rfl)
    | 1, h => cases h; exact sf_j0
    | q + 2, h => cases h
  obtain ⟨z279, rfl⟩ := bs_anI ahp277
  have E280 := lw_keep Hhp271 fhp277 rfl rfl E274
  refine (show Ev _ 851 ([some (.retAddr 0), some (.ref 0), some (.ref 69), some (.ref 87), some (.int z), a5, a6], [.int z279], (m + 0 + 0, k + 0 + 0), hp277) _ from ?_)
  refine Ev.step (j := 852) (s' := ([some (.retAddr 0), some (.ref 0), some (.ref 69), some (.ref 87), some (.int z), a5, a6], [], (m + 0 + 0, k + 0 + 0), hp277)) rfl rfl ?_
  refine Ev.step (j := 1440) (s' := ([some (.retAddr 0), some (.ref 0), some (.ref 69), some (.ref 87), some (.int z), a5, a6], [], (m + 0 + 0, k + 0 + 0), hp277)) rfl rfl ?_
  exact K _ _ _ _ _ _ Hhp277 E280 (by omega) (by omega)
set_option maxRecDepth 100000 in
set_option maxHeartbeats 4000000 in
theorem op_comes {xs : Nat → Int32} {n : Nat} {z : Int32} {a5 a6 : Option Value} {m k : Nat} {hp : ab_H} {t : Nat → Nat} {Q : ab_O → Prop} (H : sf_h t hp) (hs : lw_eq hp) (hz0 : 0 ≤ z.toInt) (hz1 : z.toInt + 6 ≤ n) (hn : n ≤ 3072) (hm : m + 21 ≤ 601024) (hk : k + 410 ≤ 7293034) (K : lw_K xs n z m k Q) : Ev (LT xs n) 855 ([some (.retAddr 0), some (.ref 0), some (.ref 69), some (.ref 87), some (.int z), a5, a6], [], (m, k), hp) Q := by
  refine Ev.step (j := 856) (s' := ([some (.retAddr 0), some (.ref 0), some (.ref 69), some (.ref 87), some (.int z), a5, a6], [.ref 0], (m, k), hp)) rfl rfl ?_
  refine Ev.step (j := 857) (s' := ([some (.retAddr 0), some (.ref 0), some (.ref 69), some (.ref 87), some (.int z), a5, a6], [.retAddr 0, .ref 0], (m, k), hp)) rfl rfl ?_
  refine Ev.step (j := 859) (s' := ([some (.retAddr 0), some (.ref 0), some (.ref 69), some (.ref 87), some (.int z), a5, a6], [.int z, .retAddr 0, .ref 0], (m, k), hp)) rfl rfl ?_
  refine bs_lit (k := 1) rfl rfl fun z281 hz281 => ?_
  refine bs_add rfl (by omega) (by omega) fun z282 hz282 => ?_
  refine ls_sld rfl (by omega) (by omega) ?_
  refine (show Ev _ 862 ([some (.retAddr 0), some (.ref 0), some (.ref 69), some (.ref 87), some (.int z), a5, a6], [.int (xs z282.toNatClampNeg), .ref 0], (m, k), hp) _ from ?_)
  refine Ev.step (j := 863) (s' := ([some (.retAddr 0), some (.ref 0), some (.ref 69), some (.ref 87), some (.int z), a5, a6], [.retAddr 0, .int (xs z282.toNatClampNeg), .ref 0], (m, k), hp)) rfl rfl ?_
  refine Ev.step (j := 865) (s' := ([some (.retAddr 0), some (.ref 0), some (.ref 69), some (.ref 87), some (.int z), a5, a6], [.int z, .retAddr 0, .int (xs z282.toNatClampNeg), .ref 0], (m, k), hp)) rfl rfl ?_
  refine bs_lit (k := 2) rfl rfl fun z283 hz283 => ?_
  refine bs_add rfl (by omega) (by omega) fun z284 hz284 => ?_
  refine ls_sld rfl (by omega) (by omega) ?_
  refine (show Ev _ 868 ([some (.retAddr 0), some (.ref 0), some (.ref 69), some (.ref 87), some (.int z), a5, a6], [.int (xs z284.toNatClampNeg), .int (xs z282.toNatClampNeg), .ref 0], (m, k), hp) _ from ?_)
  refine bs_call (K := kq_X10_comes_57b5ea) [.ref 0, .int (xs z282.toNatClampNeg), .int (xs z284.toNatClampNeg)] [] rfl ct_X10_comes_57b5ea H rfl rfl rfl (bs_rcv (g := 10) H (bs_R.uq H (g := 10) rfl) (by decide) rfl) (ls_room (Nat.le_of_ble_eq_true rfl) (by omega) (by omega)) ?_ (sf_S_nil) fun r286 hp285 thp285 Hhp285 fhp285 ahp285 php285 => ?_
  · intro q k h
    match q, h with
    | 0, h => cases h; exact bs_jR (bs_R.uq H (g := 10) rfl)
    | 1, h => cases h; exact sf_j0
    | 2, h => cases h; exact sf_j0
    | q + 3, h => cases h
  obtain ⟨z287, rfl⟩ := bs_anI ahp285
  have E288 := lw_keep H fhp285 rfl rfl hs
  refine (show Ev _ 871 ([some (.retAddr 0), some (.ref 0), some (.ref 69), some (.ref 87), some (.int z), a5, a6], [.int z287], (m + 0, k + 0), hp285) _ from ?_)
  refine Ev.step (j := 872) (s' := ([some (.retAddr 0), some (.ref 0), some (.ref 69), some (.ref 87), some (.int z), a5, a6], [], (m + 0, k + 0), hp285)) rfl rfl ?_
  refine Ev.step (j := 873) (s' := ([some (.retAddr 0), some (.ref 0), some (.ref 69), some (.ref 87), some (.int z), a5, a6], [.ref 69], (m + 0, k + 0), hp285)) rfl rfl ?_
  refine Ev.step (j := 874) (s' := ([some (.retAddr 0), some (.ref 0), some (.ref 69), some (.ref 87), some (.int z), a5, a6], [.retAddr 0, .ref 69], (m + 0, k + 0), hp285)) rfl rfl ?_
  refine Ev.step (j := 876) (s' := ([some (.retAddr 0), some (.ref 0), some (.ref 69), some (.ref 87), some (.int z), a5, a6], [.int z, .retAddr 0, .ref 69], (m + 0, k + 0), hp285)) rfl rfl ?_
  refine bs_lit (k := 1) rfl rfl fun z289 hz289 => ?_
  refine bs_add rfl (by omega) (by omega) fun z290 hz290 => ?_
  refine ls_sld rfl (by omega) (by omega) ?_
  refine (show Ev _ 879 ([some (.retAddr 0), some (.ref 0), some (.ref 69), some (.ref 87), some (.int z), a5, a6], [.int (xs z290.toNatClampNeg), .ref 69], (m + 0, k + 0), hp285) _ from ?_)
  refine Ev.step (j := 880) (s' := ([some (.retAddr 0), some (.ref 0), some (.ref 69), some (.ref 87), some (.int z), a5, a6], [.retAddr 0, .int (xs z290.toNatClampNeg), .ref 69], (m + 0, k + 0), hp285)) rfl rfl ?_
  refine Ev.step (j := 882) (s' := ([some (.retAddr 0), some (.ref 0), some (.ref 69), some (.ref 87), some (.int z), a5, a6], [.int z, .retAddr 0, .int (xs z290.toNatClampNeg), .ref 69], (m + 0, k + 0), hp285)) rfl rfl ?_
  refine bs_lit (k := 2) rfl rfl fun z291 hz291 => ?_
  refine bs_add rfl (by omega) (by omega) fun z292 hz292 => ?_
  refine ls_sld rfl (by omega) (by omega) ?_
  refine (show Ev _ 885 ([some (.retAddr 0), some (.ref 0), some (.ref 69), some (.ref 87), some (.int z), a5, a6], [.int (xs z292.toNatClampNeg), .int (xs z290.toNatClampNeg), .ref 69], (m + 0, k + 0), hp285) _ from ?_)
  refine bs_call (K := kq_X11_comes_334faa) [.ref 69, .int (xs z290.toNatClampNeg), .int (xs z292.toNatClampNeg)] [] rfl ct_X11_comes_334faa Hhp285 rfl rfl rfl (bs_rcv (g := 11) Hhp285 (bs_R.uq Hhp285 (g := 11) rfl) (by decide) rfl) (ls_room (Nat.le_of_ble_eq_true rfl) (by omega) (by omega)) ?_ (sf_S_nil) fun r294 hp293 thp293 Hhp293 fhp293 ahp293 php293 => ?_
  · intro q k h
    match q, h with
    | 0, h => cases h; exact bs_jR (bs_R.uq Hhp285 (g := 11) rfl)
    | 1, h => cases h; exact sf_j0
    | 2, h => cases h; exact sf_j0
    | q + 3, h => cases h
  obtain ⟨z295, rfl⟩ := bs_anI ahp293
  have E296 := lw_keep Hhp285 fhp293 rfl rfl E288
  refine (show Ev _ 888 ([some (.retAddr 0), some (.ref 0), some (.ref 69), some (.ref 87), some (.int z), a5, a6], [.int z295], (m + 0 + 0, k + 0 + 0), hp293) _ from ?_)
  refine Ev.step (j := 889) (s' := ([some (.retAddr 0), some (.ref 0), some (.ref 69), some (.ref 87), some (.int z), a5, a6], [], (m + 0 + 0, k + 0 + 0), hp293)) rfl rfl ?_
  refine Ev.step (j := 1440) (s' := ([some (.retAddr 0), some (.ref 0), some (.ref 69), some (.ref 87), some (.int z), a5, a6], [], (m + 0 + 0, k + 0 + 0), hp293)) rfl rfl ?_
  exact K _ _ _ _ _ _ Hhp293 E296 (by omega) (by omega)
set_option maxRecDepth 100000 in
set_option maxHeartbeats 4000000 in
theorem op_without {xs : Nat → Int32} {n : Nat} {z : Int32} {a5 a6 : Option Value} {m k : Nat} {hp : ab_H} {t : Nat → Nat} {Q : ab_O → Prop} (H : sf_h t hp) (hs : lw_eq hp) (hz0 : 0 ≤ z.toInt) (hz1 : z.toInt + 6 ≤ n) (hn : n ≤ 3072) (hm : m + 21 ≤ 601024) (hk : k + 410 ≤ 7293034) (K : lw_K xs n z m k Q) : Ev (LT xs n) 892 ([some (.retAddr 0), some (.ref 0), some (.ref 69), some (.ref 87), some (.int z), a5, a6], [], (m, k), hp) Q := by
  refine Ev.step (j := 893) (s' := ([some (.retAddr 0), some (.ref 0), some (.ref 69), some (.ref 87), some (.int z), a5, a6], [.ref 0], (m, k), hp)) rfl rfl ?_
  refine Ev.step (j := 894) (s' := ([some (.retAddr 0), some (.ref 0), some (.ref 69), some (.ref 87), some (.int z), a5, a6], [.retAddr 0, .ref 0], (m, k), hp)) rfl rfl ?_
  refine Ev.step (j := 896) (s' := ([some (.retAddr 0), some (.ref 0), some (.ref 69), some (.ref 87), some (.int z), a5, a6], [.int z, .retAddr 0, .ref 0], (m, k), hp)) rfl rfl ?_
  refine bs_lit (k := 1) rfl rfl fun z297 hz297 => ?_
  refine bs_add rfl (by omega) (by omega) fun z298 hz298 => ?_
  refine ls_sld rfl (by omega) (by omega) ?_
  refine (show Ev _ 899 ([some (.retAddr 0), some (.ref 0), some (.ref 69), some (.ref 87), some (.int z), a5, a6], [.int (xs z298.toNatClampNeg), .ref 0], (m, k), hp) _ from ?_)
  refine Ev.step (j := 900) (s' := ([some (.retAddr 0), some (.ref 0), some (.ref 69), some (.ref 87), some (.int z), a5, a6], [.retAddr 0, .int (xs z298.toNatClampNeg), .ref 0], (m, k), hp)) rfl rfl ?_
  refine Ev.step (j := 902) (s' := ([some (.retAddr 0), some (.ref 0), some (.ref 69), some (.ref 87), some (.int z), a5, a6], [.int z, .retAddr 0, .int (xs z298.toNatClampNeg), .ref 0], (m, k), hp)) rfl rfl ?_
  refine bs_lit (k := 2) rfl rfl fun z299 hz299 => ?_
  refine bs_add rfl (by omega) (by omega) fun z300 hz300 => ?_
  refine ls_sld rfl (by omega) (by omega) ?_
  refine (show Ev _ 905 ([some (.retAddr 0), some (.ref 0), some (.ref 69), some (.ref 87), some (.int z), a5, a6], [.int (xs z300.toNatClampNeg), .int (xs z298.toNatClampNeg), .ref 0], (m, k), hp) _ from ?_)
  refine Ev.step (j := 906) (s' := ([some (.retAddr 0), some (.ref 0), some (.ref 69), some (.ref 87), some (.int z), a5, a6], [.retAddr 0, .int (xs z300.toNatClampNeg), .int (xs z298.toNatClampNeg), .ref 0], (m, k), hp)) rfl rfl ?_
  refine Ev.step (j := 908) (s' := ([some (.retAddr 0), some (.ref 0), some (.ref 69), some (.ref 87), some (.int z), a5, a6], [.int z, .retAddr 0, .int (xs z300.toNatClampNeg), .int (xs z298.toNatClampNeg), .ref 0], (m, k), hp)) rfl rfl ?_
  refine bs_lit (k := 3) rfl rfl fun z301 hz301 => ?_
  refine bs_add rfl (by omega) (by omega) fun z302 hz302 => ?_
  refine ls_sld rfl (by omega) (by omega) ?_
  refine (show Ev _ 911 ([some (.retAddr 0), some (.ref 0), some (.ref 69), some (.ref 87), some (.int z), a5, a6], [.int (xs z302.toNatClampNeg), .int (xs z300.toNatClampNeg), .int (xs z298.toNatClampNeg), .ref 0], (m, k), hp) _ from ?_)
  refine Ev.step (j := 912) (s' := ([some (.retAddr 0), some (.ref 0), some (.ref 69), some (.ref 87), some (.int z), a5, a6], [.retAddr 0, .int (xs z302.toNatClampNeg), .int (xs z300.toNatClampNeg), .int (xs z298.toNatClampNeg), .ref 0], (m, k), hp)) rfl rfl ?_
  refine Ev.step (j := 914) (s' := ([some (.retAddr 0), some (.ref 0), some (.ref 69), some (.ref 87), some (.int z), a5, a6], [.int z, .retAddr 0, .int (xs z302.toNatClampNeg), .int (xs z300.toNatClampNeg), .int (xs z298.toNatClampNeg), .ref 0], (m, k), hp)) rfl rfl ?_
  refine bs_lit (k := 4) rfl rfl fun z303 hz303 => ?_
  refine bs_add rfl (by omega) (by omega) fun z304 hz304 => ?_
  refine ls_sld rfl (by omega) (by omega) ?_
  refine (show Ev _ 917 ([some (.retAddr 0), some (.ref 0), some (.ref 69), some (.ref 87), some (.int z), a5, a6], [.int (xs z304.toNatClampNeg), .int (xs z302.toNatClampNeg), .int (xs z300.toNatClampNeg), .int (xs z298.toNatClampNeg), .ref 0], (m, k), hp) _ from ?_)
  refine bs_call (K := kq_X10_without_7e309e) [.ref 0, .int (xs z298.toNatClampNeg), .int (xs z300.toNatClampNeg), .int (xs z302.toNatClampNeg), .int (xs z304.toNatClampNeg)] [] rfl ct_X10_without_7e309e H rfl rfl rfl (bs_rcv (g := 10) H (bs_R.uq H (g := 10) rfl) (by decide) rfl) (ls_room (Nat.le_of_ble_eq_true rfl) (by omega) (by omega)) ?_ (sf_S_nil) fun r306 hp305 thp305 Hhp305 fhp305 ahp305 php305 => ?_
  · intro q k h
    match q, h with
    | 0, h => cases h; exact bs_jR (bs_R.uq H (g := 10) rfl)
    | 1, h => cases h; exact sf_j0
    | 2, h => cases h; exact sf_j0
    | 3, h => cases h; exact sf_j0
    | 4, h => cases h; exact sf_j0
    | q + 5, h => cases h
  obtain ⟨z307, rfl⟩ := bs_anI ahp305
  have E308 := lw_keep H fhp305 rfl rfl hs
  refine (show Ev _ 920 ([some (.retAddr 0), some (.ref 0), some (.ref 69), some (.ref 87), some (.int z), a5, a6], [.int z307], (m + 0, k + 0), hp305) _ from ?_)
  refine Ev.step (j := 921) (s' := ([some (.retAddr 0), some (.ref 0), some (.ref 69), some (.ref 87), some (.int z), a5, a6], [], (m + 0, k + 0), hp305)) rfl rfl ?_
  refine Ev.step (j := 922) (s' := ([some (.retAddr 0), some (.ref 0), some (.ref 69), some (.ref 87), some (.int z), a5, a6], [.ref 69], (m + 0, k + 0), hp305)) rfl rfl ?_
  refine Ev.step (j := 923) (s' := ([some (.retAddr 0), some (.ref 0), some (.ref 69), some (.ref 87), some (.int z), a5, a6], [.retAddr 0, .ref 69], (m + 0, k + 0), hp305)) rfl rfl ?_
  refine Ev.step (j := 925) (s' := ([some (.retAddr 0), some (.ref 0), some (.ref 69), some (.ref 87), some (.int z), a5, a6], [.int z, .retAddr 0, .ref 69], (m + 0, k + 0), hp305)) rfl rfl ?_
  refine bs_lit (k := 1) rfl rfl fun z309 hz309 => ?_
  refine bs_add rfl (by omega) (by omega) fun z310 hz310 => ?_
  refine ls_sld rfl (by omega) (by omega) ?_
  refine (show Ev _ 928 ([some (.retAddr 0), some (.ref 0), some (.ref 69), some (.ref 87), some (.int z), a5, a6], [.int (xs z310.toNatClampNeg), .ref 69], (m + 0, k + 0), hp305) _ from ?_)
  refine Ev.step (j := 929) (s' := ([some (.retAddr 0), some (.ref 0), some (.ref 69), some (.ref 87), some (.int z), a5, a6], [.retAddr 0, .int (xs z310.toNatClampNeg), .ref 69], (m + 0, k + 0), hp305)) rfl rfl ?_
  refine Ev.step (j := 931) (s' := ([some (.retAddr 0), some (.ref 0), some (.ref 69), some (.ref 87), some (.int z), a5, a6], [.int z, .retAddr 0, .int (xs z310.toNatClampNeg), .ref 69], (m + 0, k + 0), hp305)) rfl rfl ?_
  refine bs_lit (k := 2) rfl rfl fun z311 hz311 => ?_
  refine bs_add rfl (by omega) (by omega) fun z312 hz312 => ?_
  refine ls_sld rfl (by omega) (by omega) ?_
  refine (show Ev _ 934 ([some (.retAddr 0), some (.ref 0), some (.ref 69), some (.ref 87), some (.int z), a5, a6], [.int (xs z312.toNatClampNeg), .int (xs z310.toNatClampNeg), .ref 69], (m + 0, k + 0), hp305) _ from ?_)
  refine Ev.step (j := 935) (s' := ([some (.retAddr 0), some (.ref 0), some (.ref 69), some (.ref 87), some (.int z), a5, a6], [.retAddr 0, .int (xs z312.toNatClampNeg), .int (xs z310.toNatClampNeg), .ref 69], (m + 0, k + 0), hp305)) rfl rfl ?_
  refine Ev.step (j := 937) (s' := ([some (.retAddr 0), some (.ref 0), some (.ref 69), some (.ref 87), some (.int z), a5, a6], [.int z, .retAddr 0, .int (xs z312.toNatClampNeg), .int (xs z310.toNatClampNeg), .ref 69], (m + 0, k + 0), hp305)) rfl rfl ?_
  refine bs_lit (k := 3) rfl rfl fun z313 hz313 => ?_
  refine bs_add rfl (by omega) (by omega) fun z314 hz314 => ?_
  refine ls_sld rfl (by omega) (by omega) ?_
  refine (show Ev _ 940 ([some (.retAddr 0), some (.ref 0), some (.ref 69), some (.ref 87), some (.int z), a5, a6], [.int (xs z314.toNatClampNeg), .int (xs z312.toNatClampNeg), .int (xs z310.toNatClampNeg), .ref 69], (m + 0, k + 0), hp305) _ from ?_)
  refine Ev.step (j := 941) (s' := ([some (.retAddr 0), some (.ref 0), some (.ref 69), some (.ref 87), some (.int z), a5, a6], [.retAddr 0, .int (xs z314.toNatClampNeg), .int (xs z312.toNatClampNeg), .int (xs z310.toNatClampNeg), .ref 69], (m + 0, k + 0), hp305)) rfl rfl ?_
  refine Ev.step (j := 943) (s' := ([some (.retAddr 0), some (.ref 0), some (.ref 69), some (.ref 87), some (.int z), a5, a6], [.int z, .retAddr 0, .int (xs z314.toNatClampNeg), .int (xs z312.toNatClampNeg), .int (xs z310.toNatClampNeg), .ref 69], (m + 0, k + 0), hp305)) rfl rfl ?_
  refine bs_lit (k := 4) rfl rfl fun z315 hz315 => ?_
  refine bs_add rfl (by omega) (by omega) fun z316 hz316 => ?_
  refine ls_sld rfl (by omega) (by omega) ?_
  refine (show Ev _ 946 ([some (.retAddr 0), some (.ref 0), some (.ref 69), some (.ref 87), some (.int z), a5, a6], [.int (xs z316.toNatClampNeg), .int (xs z314.toNatClampNeg), .int (xs z312.toNatClampNeg), .int (xs z310.toNatClampNeg), .ref 69], (m + 0, k + 0), hp305) _ from ?_)
  refine bs_call (K := kq_X11_without_h) [.ref 69, .int (xs z310.toNatClampNeg), .int (xs z312.toNatClampNeg), .int (xs z314.toNatClampNeg), .int (xs z316.toNatClampNeg)] [] rfl ct_X11_without_h Hhp305 rfl rfl rfl (bs_rcv (g := 11) Hhp305 (bs_R.uq Hhp305 (g := 11) rfl) (by decide) rfl) (ls_room (Nat.le_of_ble_eq_true rfl) (by omega) (by omega)) ?_ (sf_S_nil) fun r318 hp317 thp317 Hhp317 fhp317 ahp317 php317 => ?_
  · intro q k h
    match q, h with
    | 0, h => cases h; exact bs_jR (bs_R.uq Hhp305 (g := 11) rfl)
    | 1, h => cases h; exact sf_j0
    | 2, h => cases h; exact sf_j0
    | 3, h => cases h; exact sf_j0
    | 4, h => cases h; exact sf_j0
    | q + 5, h => cases h
  obtain ⟨z319, rfl⟩ := bs_anI ahp317
  have E320 := lw_keep Hhp305 fhp317 rfl rfl E308
  refine (show Ev _ 949 ([some (.retAddr 0), some (.ref 0), some (.ref 69), some (.ref 87), some (.int z), a5, a6], [.int z319], (m + 0 + 0, k + 0 + 0), hp317) _ from ?_)
  refine Ev.step (j := 950) (s' := ([some (.retAddr 0), some (.ref 0), some (.ref 69), some (.ref 87), some (.int z), a5, a6], [], (m + 0 + 0, k + 0 + 0), hp317)) rfl rfl ?_
  refine Ev.step (j := 1440) (s' := ([some (.retAddr 0), some (.ref 0), some (.ref 69), some (.ref 87), some (.int z), a5, a6], [], (m + 0 + 0, k + 0 + 0), hp317)) rfl rfl ?_
  exact K _ _ _ _ _ _ Hhp317 E320 (by omega) (by omega)
set_option maxRecDepth 100000 in
set_option maxHeartbeats 4000000 in
theorem op_meet {xs : Nat → Int32} {n : Nat} {z : Int32} {a5 a6 : Option Value} {m k : Nat} {hp : ab_H} {t : Nat → Nat} {Q : ab_O → Prop} (H : sf_h t hp) (hs : lw_eq hp) (hz0 : 0 ≤ z.toInt) (hz1 : z.toInt + 6 ≤ n) (hn : n ≤ 3072) (hm : m + 21 ≤ 601024) (hk : k + 410 ≤ 7293034) (K : lw_K xs n z m k Q) : Ev (LT xs n) 953 ([some (.retAddr 0), some (.ref 0), some (.ref 69), some (.ref 87), some (.int z), a5, a6], [], (m, k), hp) Q := by
  refine Ev.step (j := 954) (s' := ([some (.retAddr 0), some (.ref 0), some (.ref 69), some (.ref 87), some (.int z), a5, a6], [.ref 0], (m, k), hp)) rfl rfl ?_
  refine Ev.step (j := 955) (s' := ([some (.retAddr 0), some (.ref 0), some (.ref 69), some (.ref 87), some (.int z), a5, a6], [.retAddr 0, .ref 0], (m, k), hp)) rfl rfl ?_
  refine Ev.step (j := 957) (s' := ([some (.retAddr 0), some (.ref 0), some (.ref 69), some (.ref 87), some (.int z), a5, a6], [.int z, .retAddr 0, .ref 0], (m, k), hp)) rfl rfl ?_
  refine bs_lit (k := 1) rfl rfl fun z321 hz321 => ?_
  refine bs_add rfl (by omega) (by omega) fun z322 hz322 => ?_
  refine ls_sld rfl (by omega) (by omega) ?_
  refine (show Ev _ 960 ([some (.retAddr 0), some (.ref 0), some (.ref 69), some (.ref 87), some (.int z), a5, a6], [.int (xs z322.toNatClampNeg), .ref 0], (m, k), hp) _ from ?_)
  refine Ev.step (j := 961) (s' := ([some (.retAddr 0), some (.ref 0), some (.ref 69), some (.ref 87), some (.int z), a5, a6], [.retAddr 0, .int (xs z322.toNatClampNeg), .ref 0], (m, k), hp)) rfl rfl ?_
  refine Ev.step (j := 963) (s' := ([some (.retAddr 0), some (.ref 0), some (.ref 69), some (.ref 87), some (.int z), a5, a6], [.int z, .retAddr 0, .int (xs z322.toNatClampNeg), .ref 0], (m, k), hp)) rfl rfl ?_
  refine bs_lit (k := 2) rfl rfl fun z323 hz323 => ?_
  refine bs_add rfl (by omega) (by omega) fun z324 hz324 => ?_
  refine ls_sld rfl (by omega) (by omega) ?_
  refine (show Ev _ 966 ([some (.retAddr 0), some (.ref 0), some (.ref 69), some (.ref 87), some (.int z), a5, a6], [.int (xs z324.toNatClampNeg), .int (xs z322.toNatClampNeg), .ref 0], (m, k), hp) _ from ?_)
  refine bs_call (K := kq_X10_meet_57b5ea) [.ref 0, .int (xs z322.toNatClampNeg), .int (xs z324.toNatClampNeg)] [] rfl ct_X10_meet_57b5ea H rfl rfl rfl (bs_rcv (g := 10) H (bs_R.uq H (g := 10) rfl) (by decide) rfl) (ls_room (Nat.le_of_ble_eq_true rfl) (by omega) (by omega)) ?_ (sf_S_nil) fun r326 hp325 thp325 Hhp325 fhp325 ahp325 php325 => ?_
  · intro q k h
    match q, h with
    | 0, h => cases h; exact bs_jR (bs_R.uq H (g := 10) rfl)
    | 1, h => cases h; exact sf_j0
    | 2, h => cases h; exact sf_j0
    | q + 3, h => cases h
  obtain ⟨z327, rfl⟩ := bs_anI ahp325
  have E328 := lw_keep H fhp325 rfl rfl hs
  refine (show Ev _ 969 ([some (.retAddr 0), some (.ref 0), some (.ref 69), some (.ref 87), some (.int z), a5, a6], [.int z327], (m + 0, k + 0), hp325) _ from ?_)
  refine Ev.step (j := 970) (s' := ([some (.retAddr 0), some (.ref 0), some (.ref 69), some (.ref 87), some (.int z), a5, a6], [], (m + 0, k + 0), hp325)) rfl rfl ?_
  refine Ev.step (j := 971) (s' := ([some (.retAddr 0), some (.ref 0), some (.ref 69), some (.ref 87), some (.int z), a5, a6], [.ref 69], (m + 0, k + 0), hp325)) rfl rfl ?_
  refine Ev.step (j := 972) (s' := ([some (.retAddr 0), some (.ref 0), some (.ref 69), some (.ref 87), some (.int z), a5, a6], [.retAddr 0, .ref 69], (m + 0, k + 0), hp325)) rfl rfl ?_
  refine Ev.step (j := 974) (s' := ([some (.retAddr 0), some (.ref 0), some (.ref 69), some (.ref 87), some (.int z), a5, a6], [.int z, .retAddr 0, .ref 69], (m + 0, k + 0), hp325)) rfl rfl ?_
  refine bs_lit (k := 1) rfl rfl fun z329 hz329 => ?_
  refine bs_add rfl (by omega) (by omega) fun z330 hz330 => ?_
  refine ls_sld rfl (by omega) (by omega) ?_
  refine (show Ev _ 977 ([some (.retAddr 0), some (.ref 0), some (.ref 69), some (.ref 87), some (.int z), a5, a6], [.int (xs z330.toNatClampNeg), .ref 69], (m + 0, k + 0), hp325) _ from ?_)
  refine Ev.step (j := 978) (s' := ([some (.retAddr 0), some (.ref 0), some (.ref 69), some (.ref 87), some (.int z), a5, a6], [.retAddr 0, .int (xs z330.toNatClampNeg), .ref 69], (m + 0, k + 0), hp325)) rfl rfl ?_
  refine Ev.step (j := 980) (s' := ([some (.retAddr 0), some (.ref 0), some (.ref 69), some (.ref 87), some (.int z), a5, a6], [.int z, .retAddr 0, .int (xs z330.toNatClampNeg), .ref 69], (m + 0, k + 0), hp325)) rfl rfl ?_
  refine bs_lit (k := 2) rfl rfl fun z331 hz331 => ?_
  refine bs_add rfl (by omega) (by omega) fun z332 hz332 => ?_
  refine ls_sld rfl (by omega) (by omega) ?_
  refine (show Ev _ 983 ([some (.retAddr 0), some (.ref 0), some (.ref 69), some (.ref 87), some (.int z), a5, a6], [.int (xs z332.toNatClampNeg), .int (xs z330.toNatClampNeg), .ref 69], (m + 0, k + 0), hp325) _ from ?_)
  refine bs_call (K := kq_X11_meet_h) [.ref 69, .int (xs z330.toNatClampNeg), .int (xs z332.toNatClampNeg)] [] rfl ct_X11_meet_h Hhp325 rfl rfl rfl (bs_rcv (g := 11) Hhp325 (bs_R.uq Hhp325 (g := 11) rfl) (by decide) rfl) (ls_room (Nat.le_of_ble_eq_true rfl) (by omega) (by omega)) ?_ (sf_S_nil) fun r334 hp333 thp333 Hhp333 fhp333 ahp333 php333 => ?_
  · intro q k h
    match q, h with
    | 0, h => cases h; exact bs_jR (bs_R.uq Hhp325 (g := 11) rfl)
    | 1, h => cases h; exact sf_j0
    | 2, h => cases h; exact sf_j0
    | q + 3, h => cases h
  obtain ⟨z335, rfl⟩ := bs_anI ahp333
  have E336 := lw_keep Hhp325 fhp333 rfl rfl E328
  refine (show Ev _ 986 ([some (.retAddr 0), some (.ref 0), some (.ref 69), some (.ref 87), some (.int z), a5, a6], [.int z335], (m + 0 + 0, k + 0 + 0), hp333) _ from ?_)
  refine Ev.step (j := 987) (s' := ([some (.retAddr 0), some (.ref 0), some (.ref 69), some (.ref 87), some (.int z), a5, a6], [], (m + 0 + 0, k + 0 + 0), hp333)) rfl rfl ?_
  refine Ev.step (j := 1440) (s' := ([some (.retAddr 0), some (.ref 0), some (.ref 69), some (.ref 87), some (.int z), a5, a6], [], (m + 0 + 0, k + 0 + 0), hp333)) rfl rfl ?_
  exact K _ _ _ _ _ _ Hhp333 E336 (by omega) (by omega)
set_option maxRecDepth 100000 in
set_option maxHeartbeats 4000000 in
theorem op_loads {xs : Nat → Int32} {n : Nat} {z : Int32} {a5 a6 : Option Value} {m k : Nat} {hp : ab_H} {t : Nat → Nat} {Q : ab_O → Prop} (H : sf_h t hp) (hs : lw_eq hp) (hz0 : 0 ≤ z.toInt) (hz1 : z.toInt + 6 ≤ n) (hn : n ≤ 3072) (hm : m + 21 ≤ 601024) (hk : k + 410 ≤ 7293034) (K : lw_K xs n z m k Q) : Ev (LT xs n) 990 ([some (.retAddr 0), some (.ref 0), some (.ref 69), some (.ref 87), some (.int z), a5, a6], [], (m, k), hp) Q := by
  refine Ev.step (j := 991) (s' := ([some (.retAddr 0), some (.ref 0), some (.ref 69), some (.ref 87), some (.int z), a5, a6], [.ref 0], (m, k), hp)) rfl rfl ?_
  refine Ev.step (j := 992) (s' := ([some (.retAddr 0), some (.ref 0), some (.ref 69), some (.ref 87), some (.int z), a5, a6], [.retAddr 0, .ref 0], (m, k), hp)) rfl rfl ?_
  refine Ev.step (j := 994) (s' := ([some (.retAddr 0), some (.ref 0), some (.ref 69), some (.ref 87), some (.int z), a5, a6], [.int z, .retAddr 0, .ref 0], (m, k), hp)) rfl rfl ?_
  refine bs_lit (k := 1) rfl rfl fun z337 hz337 => ?_
  refine bs_add rfl (by omega) (by omega) fun z338 hz338 => ?_
  refine ls_sld rfl (by omega) (by omega) ?_
  refine (show Ev _ 997 ([some (.retAddr 0), some (.ref 0), some (.ref 69), some (.ref 87), some (.int z), a5, a6], [.int (xs z338.toNatClampNeg), .ref 0], (m, k), hp) _ from ?_)
  refine bs_call (K := kq_X10_loads_0df2a5) [.ref 0, .int (xs z338.toNatClampNeg)] [] rfl ct_X10_loads_0df2a5 H rfl rfl rfl (bs_rcv (g := 10) H (bs_R.uq H (g := 10) rfl) (by decide) rfl) (ls_room (Nat.le_of_ble_eq_true rfl) (by omega) (by omega)) ?_ (sf_S_nil) fun r340 hp339 thp339 Hhp339 fhp339 ahp339 php339 => ?_
  · intro q k h
    match q, h with
    | 0, h => cases h; exact bs_jR (bs_R.uq H (g := 10) rfl)
    | 1, h => cases h; exact sf_j0
    | q + 2, h => cases h
  obtain ⟨z341, rfl⟩ := bs_anI ahp339
  have E342 := lw_keep H fhp339 rfl rfl hs
  refine (show Ev _ 1000 ([some (.retAddr 0), some (.ref 0), some (.ref 69), some (.ref 87), some (.int z), a5, a6], [.int z341], (m + 0, k + 0), hp339) _ from ?_)
  refine Ev.step (j := 1001) (s' := ([some (.retAddr 0), some (.ref 0), some (.ref 69), some (.ref 87), some (.int z), a5, a6], [], (m + 0, k + 0), hp339)) rfl rfl ?_
  refine Ev.step (j := 1002) (s' := ([some (.retAddr 0), some (.ref 0), some (.ref 69), some (.ref 87), some (.int z), a5, a6], [.ref 69], (m + 0, k + 0), hp339)) rfl rfl ?_
  refine Ev.step (j := 1003) (s' := ([some (.retAddr 0), some (.ref 0), some (.ref 69), some (.ref 87), some (.int z), a5, a6], [.retAddr 0, .ref 69], (m + 0, k + 0), hp339)) rfl rfl ?_
  refine Ev.step (j := 1005) (s' := ([some (.retAddr 0), some (.ref 0), some (.ref 69), some (.ref 87), some (.int z), a5, a6], [.int z, .retAddr 0, .ref 69], (m + 0, k + 0), hp339)) rfl rfl ?_
  refine bs_lit (k := 1) rfl rfl fun z343 hz343 => ?_
  refine bs_add rfl (by omega) (by omega) fun z344 hz344 => ?_
  refine ls_sld rfl (by omega) (by omega) ?_
  refine (show Ev _ 1008 ([some (.retAddr 0), some (.ref 0), some (.ref 69), some (.ref 87), some (.int z), a5, a6], [.int (xs z344.toNatClampNeg), .ref 69], (m + 0, k + 0), hp339) _ from ?_)
  refine bs_call (K := kq_X11_loads_3d45d6) [.ref 69, .int (xs z344.toNatClampNeg)] [] rfl ct_X11_loads_3d45d6 Hhp339 rfl rfl rfl (bs_rcv (g := 11) Hhp339 (bs_R.uq Hhp339 (g := 11) rfl) (by decide) rfl) (ls_room (Nat.le_of_ble_eq_true rfl) (by omega) (by omega)) ?_ (sf_S_nil) fun r346 hp345 thp345 Hhp345 fhp345 ahp345 php345 => ?_
  · intro q k h
    match q, h with
    | 0, h => cases h; exact bs_jR (bs_R.uq Hhp339 (g := 11) rfl)
    | 1, h => cases h; exact sf_j0
    | q + 2, h => cases h
  obtain ⟨z347, rfl⟩ := bs_anI ahp345
  have E348 := lw_keep Hhp339 fhp345 rfl rfl E342
  refine (show Ev _ 1011 ([some (.retAddr 0), some (.ref 0), some (.ref 69), some (.ref 87), some (.int z), a5, a6], [.int z347], (m + 0 + 0, k + 0 + 0), hp345) _ from ?_)
  refine Ev.step (j := 1012) (s' := ([some (.retAddr 0), some (.ref 0), some (.ref 69), some (.ref 87), some (.int z), a5, a6], [], (m + 0 + 0, k + 0 + 0), hp345)) rfl rfl ?_
  refine Ev.step (j := 1440) (s' := ([some (.retAddr 0), some (.ref 0), some (.ref 69), some (.ref 87), some (.int z), a5, a6], [], (m + 0 + 0, k + 0 + 0), hp345)) rfl rfl ?_
  exact K _ _ _ _ _ _ Hhp345 E348 (by omega) (by omega)
set_option maxRecDepth 100000 in
set_option maxHeartbeats 4000000 in
theorem op_which {xs : Nat → Int32} {n : Nat} {z : Int32} {a5 a6 : Option Value} {m k : Nat} {hp : ab_H} {t : Nat → Nat} {Q : ab_O → Prop} (H : sf_h t hp) (hs : lw_eq hp) (hz0 : 0 ≤ z.toInt) (hz1 : z.toInt + 6 ≤ n) (hn : n ≤ 3072) (hm : m + 21 ≤ 601024) (hk : k + 410 ≤ 7293034) (K : lw_K xs n z m k Q) : Ev (LT xs n) 1015 ([some (.retAddr 0), some (.ref 0), some (.ref 69), some (.ref 87), some (.int z), a5, a6], [], (m, k), hp) Q := by
  refine Ev.step (j := 1016) (s' := ([some (.retAddr 0), some (.ref 0), some (.ref 69), some (.ref 87), some (.int z), a5, a6], [.ref 0], (m, k), hp)) rfl rfl ?_
  refine bs_call (K := kq_X10_which_z) [.ref 0] [] rfl ct_X10_which_z H rfl rfl rfl (bs_rcv (g := 10) H (bs_R.uq H (g := 10) rfl) (by decide) rfl) (ls_room (Nat.le_of_ble_eq_true rfl) (by omega) (by omega)) ?_ (sf_S_nil) fun r350 hp349 thp349 Hhp349 fhp349 ahp349 php349 => ?_
  · intro q k h
    match q, h with
    | 0, h => cases h; exact bs_jR (bs_R.uq H (g := 10) rfl)
    | q + 1, h => cases h
  obtain ⟨z351, rfl⟩ := bs_anI ahp349
  obtain ⟨y352, ey352, uy352, wy352⟩ := (php349 _ (List.mem_of_getElem? (i := 0) rfl)).1 rfl
  replace ey352 : sf_rd hp349 1 1 = some y352 := ey352
  replace uy352 : (0 : Int) ≤ y352 := uy352
  replace wy352 : y352 ≤ (0 : Int) := wy352
  refine (show Ev _ 1019 ([some (.retAddr 0), some (.ref 0), some (.ref 69), some (.ref 87), some (.int z), a5, a6], [.int z351], (m + 0, k + 0), hp349) _ from ?_)
  refine Ev.step (j := 1020) (s' := ([some (.retAddr 0), some (.ref 0), some (.ref 69), some (.ref 87), some (.int z), a5, a6], [], (m + 0, k + 0), hp349)) rfl rfl ?_
  refine Ev.step (j := 1021) (s' := ([some (.retAddr 0), some (.ref 0), some (.ref 69), some (.ref 87), some (.int z), a5, a6], [.ref 69], (m + 0, k + 0), hp349)) rfl rfl ?_
  refine bs_call (K := kq_X11_which_z) [.ref 69] [] rfl ct_X11_which_z Hhp349 rfl rfl rfl (bs_rcv (g := 11) Hhp349 (bs_R.uq Hhp349 (g := 11) rfl) (by decide) rfl) (ls_room (Nat.le_of_ble_eq_true rfl) (by omega) (by omega)) ?_ (sf_S_nil) fun r354 hp353 thp353 Hhp353 fhp353 ahp353 php353 => ?_
  · intro q k h
    match q, h with
    | 0, h => cases h; exact bs_jR (bs_R.uq Hhp349 (g := 11) rfl)
    | q + 1, h => cases h
  obtain ⟨z355, rfl⟩ := bs_anI ahp353
  obtain ⟨y356, ey356, uy356, wy356⟩ := (php353 _ (List.mem_of_getElem? (i := 0) rfl)).1 rfl
  replace ey356 : sf_rd hp353 69 2 = some y356 := ey356
  replace uy356 : (0 : Int) ≤ y356 := uy356
  replace wy356 : y356 ≤ (0 : Int) := wy356
  have hc2 := (fhp353.2.2.1 _ (bs_R.uq Hhp349 (g := 8) rfl).1 1 (by rw [(bs_R.uq Hhp349 (g := 8) (p := 1) rfl).2]; rfl)).trans ey352
  have E : lw_eq hp353 := ⟨0, hc2.trans (congrArg some (by omega)), ey356.trans (congrArg some (by omega))⟩
  refine (show Ev _ 1024 ([some (.retAddr 0), some (.ref 0), some (.ref 69), some (.ref 87), some (.int z), a5, a6], [.int z355], (m + 0 + 0, k + 0 + 0), hp353) _ from ?_)
  refine Ev.step (j := 1025) (s' := ([some (.retAddr 0), some (.ref 0), some (.ref 69), some (.ref 87), some (.int z), a5, a6], [], (m + 0 + 0, k + 0 + 0), hp353)) rfl rfl ?_
  refine Ev.step (j := 1440) (s' := ([some (.retAddr 0), some (.ref 0), some (.ref 69), some (.ref 87), some (.int z), a5, a6], [], (m + 0 + 0, k + 0 + 0), hp353)) rfl rfl ?_
  exact K _ _ _ _ _ _ Hhp353 E (by omega) (by omega)
set_option maxRecDepth 100000 in
set_option maxHeartbeats 4000000 in
theorem op_settles {xs : Nat → Int32} {n : Nat} {z : Int32} {a5 a6 : Option Value} {m k : Nat} {hp : ab_H} {t : Nat → Nat} {Q : ab_O → Prop} (H : sf_h t hp) (hs : lw_eq hp) (hz0 : 0 ≤ z.toInt) (hz1 : z.toInt + 6 ≤ n) (hn : n ≤ 3072) (hm : m + 21 ≤ 601024) (hk : k + 410 ≤ 7293034) (K : lw_K xs n z m k Q) : Ev (LT xs n) 1028 ([some (.retAddr 0), some (.ref 0), some (.ref 69), some (.ref 87), some (.int z), a5, a6], [], (m, k), hp) Q := by
  refine Ev.step (j := 1029) (s' := ([some (.retAddr 0), some (.ref 0), some (.ref 69), some (.ref 87), some (.int z), a5, a6], [.ref 0], (m, k), hp)) rfl rfl ?_
  refine bs_call (K := kq_X10_settles_4c18a7) [.ref 0] [] rfl ct_X10_settles_4c18a7 H rfl rfl rfl (bs_rcv (g := 10) H (bs_R.uq H (g := 10) rfl) (by decide) rfl) (ls_room (Nat.le_of_ble_eq_true rfl) (by omega) (by omega)) ?_ (sf_S_nil) fun r358 hp357 thp357 Hhp357 fhp357 ahp357 php357 => ?_
  · intro q k h
    match q, h with
    | 0, h => cases h; exact bs_jR (bs_R.uq H (g := 10) rfl)
    | q + 1, h => cases h
  obtain ⟨z359, rfl⟩ := bs_anI ahp357
  have E360 := lw_keep H fhp357 rfl rfl hs
  refine (show Ev _ 1032 ([some (.retAddr 0), some (.ref 0), some (.ref 69), some (.ref 87), some (.int z), a5, a6], [.int z359], (m + 0, k + 0), hp357) _ from ?_)
  refine Ev.step (j := 1033) (s' := ([some (.retAddr 0), some (.ref 0), some (.ref 69), some (.ref 87), some (.int z), a5, a6], [], (m + 0, k + 0), hp357)) rfl rfl ?_
  refine Ev.step (j := 1034) (s' := ([some (.retAddr 0), some (.ref 0), some (.ref 69), some (.ref 87), some (.int z), a5, a6], [.ref 69], (m + 0, k + 0), hp357)) rfl rfl ?_
  refine bs_call (K := kq_X11_settles_h) [.ref 69] [] rfl ct_X11_settles_h Hhp357 rfl rfl rfl (bs_rcv (g := 11) Hhp357 (bs_R.uq Hhp357 (g := 11) rfl) (by decide) rfl) (ls_room (Nat.le_of_ble_eq_true rfl) (by omega) (by omega)) ?_ (sf_S_nil) fun r362 hp361 thp361 Hhp361 fhp361 ahp361 php361 => ?_
  · intro q k h
    match q, h with
    | 0, h => cases h; exact bs_jR (bs_R.uq Hhp357 (g := 11) rfl)
    | q + 1, h => cases h
  obtain ⟨z363, rfl⟩ := bs_anI ahp361
  have E364 := lw_keep Hhp357 fhp361 rfl rfl E360
  refine (show Ev _ 1037 ([some (.retAddr 0), some (.ref 0), some (.ref 69), some (.ref 87), some (.int z), a5, a6], [.int z363], (m + 0 + 0, k + 0 + 0), hp361) _ from ?_)
  refine Ev.step (j := 1038) (s' := ([some (.retAddr 0), some (.ref 0), some (.ref 69), some (.ref 87), some (.int z), a5, a6], [], (m + 0 + 0, k + 0 + 0), hp361)) rfl rfl ?_
  refine Ev.step (j := 1440) (s' := ([some (.retAddr 0), some (.ref 0), some (.ref 69), some (.ref 87), some (.int z), a5, a6], [], (m + 0 + 0, k + 0 + 0), hp361)) rfl rfl ?_
  exact K _ _ _ _ _ _ Hhp361 E364 (by omega) (by omega)
set_option maxRecDepth 100000 in
set_option maxHeartbeats 4000000 in
theorem op_hunger {xs : Nat → Int32} {n : Nat} {z : Int32} {a5 a6 : Option Value} {m k : Nat} {hp : ab_H} {t : Nat → Nat} {Q : ab_O → Prop} (H : sf_h t hp) (hs : lw_eq hp) (hz0 : 0 ≤ z.toInt) (hz1 : z.toInt + 6 ≤ n) (hn : n ≤ 3072) (hm : m + 21 ≤ 601024) (hk : k + 410 ≤ 7293034) (K : lw_K xs n z m k Q) : Ev (LT xs n) 1041 ([some (.retAddr 0), some (.ref 0), some (.ref 69), some (.ref 87), some (.int z), a5, a6], [], (m, k), hp) Q := by
  refine Ev.step (j := 1042) (s' := ([some (.retAddr 0), some (.ref 0), some (.ref 69), some (.ref 87), some (.int z), a5, a6], [.ref 0], (m, k), hp)) rfl rfl ?_
  refine Ev.step (j := 1043) (s' := ([some (.retAddr 0), some (.ref 0), some (.ref 69), some (.ref 87), some (.int z), a5, a6], [.retAddr 0, .ref 0], (m, k), hp)) rfl rfl ?_
  refine Ev.step (j := 1045) (s' := ([some (.retAddr 0), some (.ref 0), some (.ref 69), some (.ref 87), some (.int z), a5, a6], [.int z, .retAddr 0, .ref 0], (m, k), hp)) rfl rfl ?_
  refine bs_lit (k := 1) rfl rfl fun z365 hz365 => ?_
  refine bs_add rfl (by omega) (by omega) fun z366 hz366 => ?_
  refine ls_sld rfl (by omega) (by omega) ?_
  refine (show Ev _ 1048 ([some (.retAddr 0), some (.ref 0), some (.ref 69), some (.ref 87), some (.int z), a5, a6], [.int (xs z366.toNatClampNeg), .ref 0], (m, k), hp) _ from ?_)
  refine Ev.step (j := 1049) (s' := ([some (.retAddr 0), some (.ref 0), some (.ref 69), some (.ref 87), some (.int z), a5, a6], [.retAddr 0, .int (xs z366.toNatClampNeg), .ref 0], (m, k), hp)) rfl rfl ?_
  refine Ev.step (j := 1051) (s' := ([some (.retAddr 0), some (.ref 0), some (.ref 69), some (.ref 87), some (.int z), a5, a6], [.int z, .retAddr 0, .int (xs z366.toNatClampNeg), .ref 0], (m, k), hp)) rfl rfl ?_
  refine bs_lit (k := 2) rfl rfl fun z367 hz367 => ?_
  refine bs_add rfl (by omega) (by omega) fun z368 hz368 => ?_
  refine ls_sld rfl (by omega) (by omega) ?_
  refine (show Ev _ 1054 ([some (.retAddr 0), some (.ref 0), some (.ref 69), some (.ref 87), some (.int z), a5, a6], [.int (xs z368.toNatClampNeg), .int (xs z366.toNatClampNeg), .ref 0], (m, k), hp) _ from ?_)
  refine Ev.step (j := 1055) (s' := ([some (.retAddr 0), some (.ref 0), some (.ref 69), some (.ref 87), some (.int z), a5, a6], [.retAddr 0, .int (xs z368.toNatClampNeg), .int (xs z366.toNatClampNeg), .ref 0], (m, k), hp)) rfl rfl ?_
  refine Ev.step (j := 1057) (s' := ([some (.retAddr 0), some (.ref 0), some (.ref 69), some (.ref 87), some (.int z), a5, a6], [.int z, .retAddr 0, .int (xs z368.toNatClampNeg), .int (xs z366.toNatClampNeg), .ref 0], (m, k), hp)) rfl rfl ?_
  refine bs_lit (k := 3) rfl rfl fun z369 hz369 => ?_
  refine bs_add rfl (by omega) (by omega) fun z370 hz370 => ?_
  refine ls_sld rfl (by omega) (by omega) ?_
  refine (show Ev _ 1060 ([some (.retAddr 0), some (.ref 0), some (.ref 69), some (.ref 87), some (.int z), a5, a6], [.int (xs z370.toNatClampNeg), .int (xs z368.toNatClampNeg), .int (xs z366.toNatClampNeg), .ref 0], (m, k), hp) _ from ?_)
  refine bs_call (K := kq_X10_hunger_7e6f69) [.ref 0, .int (xs z366.toNatClampNeg), .int (xs z368.toNatClampNeg), .int (xs z370.toNatClampNeg)] [] rfl ct_X10_hunger_7e6f69 H rfl rfl rfl (bs_rcv (g := 10) H (bs_R.uq H (g := 10) rfl) (by decide) rfl) (ls_room (Nat.le_of_ble_eq_true rfl) (by omega) (by omega)) ?_ (sf_S_nil) fun r372 hp371 thp371 Hhp371 fhp371 ahp371 php371 => ?_
  · intro q k h
    match q, h with
    | 0, h => cases h; exact bs_jR (bs_R.uq H (g := 10) rfl)
    | 1, h => cases h; exact sf_j0
    | 2, h => cases h; exact sf_j0
    | 3, h => cases h; exact sf_j0
    | q + 4, h => cases h
  obtain ⟨z373, rfl⟩ := bs_anI ahp371
  have E374 := lw_keep H fhp371 rfl rfl hs
  refine (show Ev _ 1063 ([some (.retAddr 0), some (.ref 0), some (.ref 69), some (.ref 87), some (.int z), a5, a6], [.int z373], (m + 0, k + 0), hp371) _ from ?_)
  refine Ev.step (j := 1064) (s' := ([some (.retAddr 0), some (.ref 0), some (.ref 69), some (.ref 87), some (.int z), a5, a6], [], (m + 0, k + 0), hp371)) rfl rfl ?_
  refine Ev.step (j := 1065) (s' := ([some (.retAddr 0), some (.ref 0), some (.ref 69), some (.ref 87), some (.int z), a5, a6], [.ref 69], (m + 0, k + 0), hp371)) rfl rfl ?_
  refine Ev.step (j := 1066) (s' := ([some (.retAddr 0), some (.ref 0), some (.ref 69), some (.ref 87), some (.int z), a5, a6], [.retAddr 0, .ref 69], (m + 0, k + 0), hp371)) rfl rfl ?_
  refine Ev.step (j := 1068) (s' := ([some (.retAddr 0), some (.ref 0), some (.ref 69), some (.ref 87), some (.int z), a5, a6], [.int z, .retAddr 0, .ref 69], (m + 0, k + 0), hp371)) rfl rfl ?_
  refine bs_lit (k := 1) rfl rfl fun z375 hz375 => ?_
  refine bs_add rfl (by omega) (by omega) fun z376 hz376 => ?_
  refine ls_sld rfl (by omega) (by omega) ?_
  refine (show Ev _ 1071 ([some (.retAddr 0), some (.ref 0), some (.ref 69), some (.ref 87), some (.int z), a5, a6], [.int (xs z376.toNatClampNeg), .ref 69], (m + 0, k + 0), hp371) _ from ?_)
  refine Ev.step (j := 1072) (s' := ([some (.retAddr 0), some (.ref 0), some (.ref 69), some (.ref 87), some (.int z), a5, a6], [.retAddr 0, .int (xs z376.toNatClampNeg), .ref 69], (m + 0, k + 0), hp371)) rfl rfl ?_
  refine Ev.step (j := 1074) (s' := ([some (.retAddr 0), some (.ref 0), some (.ref 69), some (.ref 87), some (.int z), a5, a6], [.int z, .retAddr 0, .int (xs z376.toNatClampNeg), .ref 69], (m + 0, k + 0), hp371)) rfl rfl ?_
  refine bs_lit (k := 2) rfl rfl fun z377 hz377 => ?_
  refine bs_add rfl (by omega) (by omega) fun z378 hz378 => ?_
  refine ls_sld rfl (by omega) (by omega) ?_
  refine (show Ev _ 1077 ([some (.retAddr 0), some (.ref 0), some (.ref 69), some (.ref 87), some (.int z), a5, a6], [.int (xs z378.toNatClampNeg), .int (xs z376.toNatClampNeg), .ref 69], (m + 0, k + 0), hp371) _ from ?_)
  refine Ev.step (j := 1078) (s' := ([some (.retAddr 0), some (.ref 0), some (.ref 69), some (.ref 87), some (.int z), a5, a6], [.retAddr 0, .int (xs z378.toNatClampNeg), .int (xs z376.toNatClampNeg), .ref 69], (m + 0, k + 0), hp371)) rfl rfl ?_
  refine Ev.step (j := 1080) (s' := ([some (.retAddr 0), some (.ref 0), some (.ref 69), some (.ref 87), some (.int z), a5, a6], [.int z, .retAddr 0, .int (xs z378.toNatClampNeg), .int (xs z376.toNatClampNeg), .ref 69], (m + 0, k + 0), hp371)) rfl rfl ?_
  refine bs_lit (k := 3) rfl rfl fun z379 hz379 => ?_
  refine bs_add rfl (by omega) (by omega) fun z380 hz380 => ?_
  refine ls_sld rfl (by omega) (by omega) ?_
  refine (show Ev _ 1083 ([some (.retAddr 0), some (.ref 0), some (.ref 69), some (.ref 87), some (.int z), a5, a6], [.int (xs z380.toNatClampNeg), .int (xs z378.toNatClampNeg), .int (xs z376.toNatClampNeg), .ref 69], (m + 0, k + 0), hp371) _ from ?_)
  refine bs_call (K := kq_X11_hunger_3518ea) [.ref 69, .int (xs z376.toNatClampNeg), .int (xs z378.toNatClampNeg), .int (xs z380.toNatClampNeg)] [] rfl ct_X11_hunger_3518ea Hhp371 rfl rfl rfl (bs_rcv (g := 11) Hhp371 (bs_R.uq Hhp371 (g := 11) rfl) (by decide) rfl) (ls_room (Nat.le_of_ble_eq_true rfl) (by omega) (by omega)) ?_ (sf_S_nil) fun r382 hp381 thp381 Hhp381 fhp381 ahp381 php381 => ?_
  · intro q k h
    match q, h with
    | 0, h => cases h; exact bs_jR (bs_R.uq Hhp371 (g := 11) rfl)
    | 1, h => cases h; exact sf_j0
    | 2, h => cases h; exact sf_j0
    | 3, h => cases h; exact sf_j0
    | q + 4, h => cases h
  obtain ⟨z383, rfl⟩ := bs_anI ahp381
  have E384 := lw_keep Hhp371 fhp381 rfl rfl E374
  refine (show Ev _ 1086 ([some (.retAddr 0), some (.ref 0), some (.ref 69), some (.ref 87), some (.int z), a5, a6], [.int z383], (m + 0 + 0, k + 0 + 0), hp381) _ from ?_)
  refine Ev.step (j := 1087) (s' := ([some (.retAddr 0), some (.ref 0), some (.ref 69), some (.ref 87), some (.int z), a5, a6], [], (m + 0 + 0, k + 0 + 0), hp381)) rfl rfl ?_
  refine Ev.step (j := 1440) (s' := ([some (.retAddr 0), some (.ref 0), some (.ref 69), some (.ref 87), some (.int z), a5, a6], [], (m + 0 + 0, k + 0 + 0), hp381)) rfl rfl ?_
  exact K _ _ _ _ _ _ Hhp381 E384 (by omega) (by omega)
set_option maxRecDepth 100000 in
set_option maxHeartbeats 4000000 in
theorem op_prices {xs : Nat → Int32} {n : Nat} {z : Int32} {a5 a6 : Option Value} {m k : Nat} {hp : ab_H} {t : Nat → Nat} {Q : ab_O → Prop} (H : sf_h t hp) (hs : lw_eq hp) (hz0 : 0 ≤ z.toInt) (hz1 : z.toInt + 6 ≤ n) (hn : n ≤ 3072) (hm : m + 21 ≤ 601024) (hk : k + 410 ≤ 7293034) (K : lw_K xs n z m k Q) : Ev (LT xs n) 1090 ([some (.retAddr 0), some (.ref 0), some (.ref 69), some (.ref 87), some (.int z), a5, a6], [], (m, k), hp) Q := by
  refine Ev.step (j := 1091) (s' := ([some (.retAddr 0), some (.ref 0), some (.ref 69), some (.ref 87), some (.int z), a5, a6], [.ref 0], (m, k), hp)) rfl rfl ?_
  refine bs_call (K := kq_X10_prices_4c18a7) [.ref 0] [] rfl ct_X10_prices_4c18a7 H rfl rfl rfl (bs_rcv (g := 10) H (bs_R.uq H (g := 10) rfl) (by decide) rfl) (ls_room (Nat.le_of_ble_eq_true rfl) (by omega) (by omega)) ?_ (sf_S_nil) fun r386 hp385 thp385 Hhp385 fhp385 ahp385 php385 => ?_
  · intro q k h
    match q, h with
    | 0, h => cases h; exact bs_jR (bs_R.uq H (g := 10) rfl)
    | q + 1, h => cases h
  obtain ⟨z387, rfl⟩ := bs_anI ahp385
  have E388 := lw_keep H fhp385 rfl rfl hs
  refine (show Ev _ 1094 ([some (.retAddr 0), some (.ref 0), some (.ref 69), some (.ref 87), some (.int z), a5, a6], [.int z387], (m + 0, k + 0), hp385) _ from ?_)
  refine Ev.step (j := 1095) (s' := ([some (.retAddr 0), some (.ref 0), some (.ref 69), some (.ref 87), some (.int z), a5, a6], [], (m + 0, k + 0), hp385)) rfl rfl ?_
  refine Ev.step (j := 1096) (s' := ([some (.retAddr 0), some (.ref 0), some (.ref 69), some (.ref 87), some (.int z), a5, a6], [.ref 69], (m + 0, k + 0), hp385)) rfl rfl ?_
  refine bs_call (K := kq_X11_prices_6afe8b) [.ref 69] [] rfl ct_X11_prices_6afe8b Hhp385 rfl rfl rfl (bs_rcv (g := 11) Hhp385 (bs_R.uq Hhp385 (g := 11) rfl) (by decide) rfl) (ls_room (Nat.le_of_ble_eq_true rfl) (by omega) (by omega)) ?_ (sf_S_nil) fun r390 hp389 thp389 Hhp389 fhp389 ahp389 php389 => ?_
  · intro q k h
    match q, h with
    | 0, h => cases h; exact bs_jR (bs_R.uq Hhp385 (g := 11) rfl)
    | q + 1, h => cases h
  obtain ⟨z391, rfl⟩ := bs_anI ahp389
  have E392 := lw_keep Hhp385 fhp389 rfl rfl E388
  refine (show Ev _ 1099 ([some (.retAddr 0), some (.ref 0), some (.ref 69), some (.ref 87), some (.int z), a5, a6], [.int z391], (m + 0 + 0, k + 0 + 0), hp389) _ from ?_)
  refine Ev.step (j := 1100) (s' := ([some (.retAddr 0), some (.ref 0), some (.ref 69), some (.ref 87), some (.int z), a5, a6], [], (m + 0 + 0, k + 0 + 0), hp389)) rfl rfl ?_
  refine Ev.step (j := 1440) (s' := ([some (.retAddr 0), some (.ref 0), some (.ref 69), some (.ref 87), some (.int z), a5, a6], [], (m + 0 + 0, k + 0 + 0), hp389)) rfl rfl ?_
  exact K _ _ _ _ _ _ Hhp389 E392 (by omega) (by omega)
